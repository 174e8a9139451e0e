/** Terms I, sentence by sentence: the last that is still taken in a text, and the first that isn't. */
public final class TextBoundsTest {
    private static final String HEAD = Texts.HEAD;
    private static final String ALL = Texts.ALL;
    private static final String GOD = Texts.GOD;
    private static final String PRAYERS = Texts.PRAYERS;

    private static void fault(int number, String text) {
        Texts.fault(number, text);
    }

    private static PrayerWay good(String text) {
        return Texts.good(text);
    }

    /** A WHOLE between bounds, at the place of the bar. */
    private static void whole(int low, int high, String text) {
        int bar = text.indexOf('|');
        String before = text.substring(0, bar);
        String after = text.substring(bar + 1);
        for (int value = low; value <= high; value++) {
            good(before + value + after);
        }
        good(before + padded(low) + after);
        good(before + padded(high) + after);
        if (low > 0) {
            fault(4, before + "|" + (low - 1) + after);
            fault(4, before + "|0" + after);
        }
        fault(4, before + "|" + (high + 1) + after);
        fault(4, before + "|" + padded(high + 1) + after);
        fault(4, before + "|999" + after);
        fault(1, before + "|1000" + after);
        fault(1, before + "|0" + padded(low) + after);
        fault(1, before + "|x" + after);
        fault(1, before + "|," + after);
        fault(1, before + "|;" + after);
        fault(1, before + "|-1" + after);
        fault(1, before + "|");
        fault(1, before + "  |");
    }

    private static String padded(int value) {
        String digits = "00" + value;
        return digits.substring(digits.length() - 3);
    }

    // ---- tokens

    /** "blanks, 32, part TOKENS and mean nothing else" */
    private static void blanks() {
        String text = "land wide 2 high 1 law need ; row ab ; thing t ; god g plain price 0 serves 1 from 0 to 24"
                + " ; prayer p t at 1 , 0 hour 0 starts g 0 gift 0 need 0";
        good(text);
        good(text.replace(" ", "   "));
        good("  " + text + "  ");
        good(text.replace(" ;", ";").replace("; ", ";").replace(" ,", ",").replace(", ", ","));
        good("land wide2high1law need;row ab;thing t;god g plain price0serves1from0to24"
                + ";prayer p t at1,0hour0starts g0gift0need0");
        fault(1, "|la nd wide 2");
        fault(1, "|landwide 2");
        fault(1, "land wide 2 |hi gh 1");
        fault(1, HEAD + ";luck 1 |2");
        fault(1, HEAD + ";thing a |b");
        fault(1, HEAD + " |thing a");
    }

    /** "TOKENS: WORDS of .. small letters ..., WHOLES of .. digits ..., single ones of ; ,": no other byte. */
    private static void everyByte() {
        for (int b = 0; b < 256; b++) {
            char sign = (char) b;
            boolean letter = sign >= 'a' && sign <= 'z';
            boolean digit = sign >= '0' && sign <= '9';
            String name = HEAD + ";thing ";
            String number = HEAD + ";luck ";
            String comma = ALL + ";village v at 0";
            int end = sign == ' ' ? 1 : 0;
            Texts.faultAt(letter ? 6 : 1, name.length() + (letter ? 1 : end), name + sign);
            Texts.faultAt(digit ? 6 : 1, number.length() + (digit ? 1 : end), number + sign);
            if (sign == ',') {
                good(comma + sign + "0 saint g");
            } else if (digit) {
                Texts.faultAt(sign > '1' ? 4 : 1, comma.length() + (sign > '1' ? -1 : 2), comma + sign + " 0 saint g");
            } else {
                Texts.faultAt(1, comma.length() + end, comma + sign + "0 saint g");
            }
            if (sign == ';') {
                good(HEAD + sign + ALL.substring(HEAD.length() + 1));
            } else if (!letter) {
                Texts.faultAt(1, HEAD.length() + end, HEAD + sign + ALL.substring(HEAD.length() + 1));
            }
        }
    }

    /** "single ones of ; ,": two of them are two TOKENS. */
    private static void signs() {
        fault(1, HEAD + ";|;row ab");
        fault(1, HEAD + ";|,");
        fault(1, HEAD + "|,row ab");
        fault(1, ALL + ";village v at 0,|,0 saint g");
        fault(1, ALL + ";village v at 0|;0 saint g");
        fault(1, ALL + ";village v at |,0 saint g");
        fault(1, ALL + ";|");
        fault(1, ALL + ";  |");
        fault(1, "|;" + ALL);
        fault(1, "|," + ALL);
    }

    /** "WORDS of 1 to 8 small letters that stand together, WHOLES of 1 to 3 digits that do" */
    private static void lengths() {
        good(HEAD + Texts.ROW + ";thing x;thing abcdefgh;god zzzzzzzz" + GOD + ";holds zzzzzzzz abcdefgh a 0 to 1");
        fault(1, HEAD + ";thing |abcdefghi");
        fault(1, HEAD + ";thing |abcdefghijklmnopqrstuvwxyz");
        fault(1, HEAD + ";thing abcdefgh |i");
        fault(1, HEAD + ";row |abcdeabcd");
        fault(1, HEAD + ";|landlands");
        fault(1, ALL + ";holds g t |aaaaaaaaa 0 to 1");
        fault(1, ALL + ";holds |ggggggggg t");
        fault(1, "land |wideeeeee 2");
        fault(1, "land wide 2 high 1 law |firstfirst");
        fault(1, HEAD + ";luck |0000");
        fault(1, HEAD + ";luck |12345678901234567890");
        good(ALL + ";luck 7");
        good(ALL + ";luck 07");
        Checks.told("007 is 7", good(ALL + ";luck 007"), 7, good(ALL + ";luck 007").left());
    }

    /** Names are unlike if one letter is, be it the last of eight, or if one has a letter more. */
    private static void unlikeNames() {
        good(HEAD + Texts.ROW + ";thing abcdefgh;thing abcdefgi;thing bbcdefgh;thing abcdefg;thing a;thing aa;god g" + GOD);
        fault(3, HEAD + ";thing abcdefgh;thing abcdefgi;thing |abcdefgh");
        fault(2, ALL + ";thing abcdefgh;holds g |abcdefgi");
        fault(2, ALL + ";thing abcdefgh;holds g |abcdefg");
        fault(2, ALL + ";thing ab;holds g |b");
        fault(2, ALL + ";thing ab;holds g |ba");
    }

    // ---- the lines and their bounds

    /** "land wide WHOLE high WHOLE law LAW (2 .. 6, 1 .. 4; LAW: first, gift, or need), ahead of all others" */
    private static void landLine() {
        for (int wide = 2; wide <= 6; wide++) {
            for (int high = 1; high <= 4; high++) {
                String rows = ";row eeeeee".substring(0, 5 + wide).repeat(high);
                PrayerWay way = good("land wide " + wide + " high " + high + " law need" + rows + ";thing t;god g" + GOD);
                Checks.due("wide " + wide, wide, way.size(0));
                Checks.due("high " + high, high, way.size(1));
                Checks.told("the last soil", way, 4, way.soil(wide - 1, high - 1));
                Checks.refused("a cell more", way, 1, way.soil(wide, high - 1));
                Checks.refused("a row more", way, 1, way.soil(wide - 1, high));
            }
        }
        for (String wide : "0 1 7 8 9 10 99 100 999 001 007".split(" ")) {
            fault(4, "land wide |" + wide);
            fault(4, "land wide |" + wide + " high 9 law odd");
        }
        for (String high : "0 5 6 9 10 999 000 005".split(" ")) {
            fault(4, "land wide 2 high |" + high);
        }
        fault(1, "land wide |1000");
        fault(1, "land wide 2 high |0001");
        String[] laws = {"first", "gift", "need"};
        for (int law = 0; law < 3; law++) {
            Checks.due("law " + laws[law], law, good(ALL.replace("first", laws[law])).size(2));
        }
        for (String law : "firs firsts gifts needs last law 1 any land".split(" ")) {
            fault(1, "land wide 2 high 1 law |" + law);
        }
        fault(1, "land wide 2 high 1 law need|2");
        fault(1, "land wide 2 high 1|");
        fault(1, "land wide 2 high 1 law|");
        fault(1, "land wide 2 |law need high 1");
        fault(6, HEAD + "|");
    }

    /** "row ROW (a WORD of as many letters as wide, each a .. e: SOILS; as many LINES as high, from above)" */
    private static void rowLine() {
        String rest = ";thing t;god g" + GOD;
        for (int wide = 2; wide <= 6; wide++) {
            String head = "land wide " + wide + " high 1 law first;row ";
            good(head + "edcbae".substring(0, wide) + rest);
            fault(7, head + "|" + "edcbae".substring(0, wide - 1) + rest);
            fault(7, head + "|" + "edcbaea".substring(0, wide + 1) + rest);
            fault(7, head + "|edcbaeab" + rest);
            fault(7, head + "|a" + rest);
            for (int x = 0; x < wide; x++) {
                StringBuilder row = new StringBuilder("aaaaaa".substring(0, wide));
                row.setCharAt(x, 'f');
                fault(7, head + "|" + row + rest);
                row.setCharAt(x, 'z');
                fault(7, head + "|" + row + rest);
            }
            fault(1, head + "|5");
            fault(1, head + "|;");
            fault(1, head + "|");
            fault(1, head + "abcdea".substring(0, wide) + " |a" + rest);
        }
        PrayerWay way = good("land wide 2 high 4 law first;row ab;row cd;row ea;row bc" + rest);
        int[] soils = {0, 1, 2, 3, 4, 0, 1, 2};
        for (int cell = 0; cell < 8; cell++) {
            Checks.told("from above: " + cell, way, soils[cell], way.soil(cell % 2, cell / 2));
        }
        for (int high = 1; high <= 4; high++) {
            String head = "land wide 2 high " + high + " law first";
            fault(6, head + ";row ab".repeat(high - 1) + rest + "|");
            good(head + ";row ab".repeat(high) + rest);
            fault(5, head + ";row ab".repeat(high) + rest + ";|row ab");
            fault(5, head + ";row ab".repeat(high) + ";|row x");
            fault(5, head + ";row ab".repeat(high) + ";|row");
        }
    }

    /** "thing NAME (up to 6), or luck WHOLE (0 .. 99; once)" */
    private static void thingAndLuckLines() {
        for (int n = 1; n <= 6; n++) {
            Checks.due("things", n, good(HEAD + Texts.ROW + ";god g" + GOD + Texts.times(n, ";thing #")).size(3));
        }
        fault(5, HEAD + Texts.times(6, ";thing #") + ";|thing o");
        fault(5, HEAD + Texts.times(6, ";thing #") + ";|thing i");
        fault(5, HEAD + Texts.times(6, ";thing #") + ";|thing 5");
        fault(5, HEAD + Texts.times(6, ";thing #") + ";|thing");
        whole(0, 99, ALL + ";luck |");
        Checks.told("luck untold is 0", good(ALL), 0, good(ALL).left());
        Checks.told("luck 99", good(ALL + ";luck 99"), 99, good(ALL + ";luck 99").left());
        fault(3, ALL + ";luck 0;|luck 0");
        fault(3, ALL + ";luck 5;|luck x");
        fault(3, ALL + ";luck 5;|luck");
    }

    /**
     * "god NAME KIND price WHOLE serves WHOLE from WHOLE to WHOLE (..; 0 .. 99, 1 .. 9; 0 .. 23, above that up to 24;
     * up to 6)"
     */
    private static void godLine() {
        String head = HEAD + Texts.ROW + ";thing t;god g ";
        String[] kinds = {"plain", "proud", "jealous", "asleep"};
        for (int kind = 0; kind < 4; kind++) {
            PrayerWay way = good(head + kinds[kind] + " price 0 serves 1 from 0 to 1");
            Checks.told(kinds[kind], way, kind, way.god(0, 0));
        }
        for (String kind : "awake plai plains any god 1 ; ,".split(" ")) {
            fault(1, head + "|" + kind + " price 0 serves 1 from 0 to 1");
        }
        whole(0, 99, head + "plain price | serves 1 from 0 to 24");
        whole(1, 9, head + "plain price 0 serves | from 0 to 24");
        whole(0, 23, head + "plain price 0 serves 1 from | to 24");
        for (int from = 0; from <= 23; from++) {
            whole(from + 1, 24, head + "plain price 0 serves 1 from " + from + " to |");
            fault(4, head + "plain price 0 serves 1 from " + from + " to |" + from);
        }
        for (int n = 1; n <= 6; n++) {
            Checks.due("gods", n, good(HEAD + Texts.ROW + ";thing t" + Texts.times(n, ";god #" + GOD)).size(4));
        }
        fault(5, HEAD + Texts.times(6, ";god #" + GOD) + ";|god o" + GOD);
        fault(5, HEAD + Texts.times(6, ";god #" + GOD) + ";|god i");
        fault(5, HEAD + Texts.times(6, ";god #" + GOD) + ";|god");
    }

    /** "holds GOD THING SOIL WHOLE to WHOLE (THING, or any; SOIL: .., a .. e, or any; hours as above; up to 16)" */
    private static void holdsLine() {
        for (String soil : "a b c d e any".split(" ")) {
            good(ALL + ";holds g t " + soil + " 0 to 24;holds g any " + soil + " 23 to 24");
        }
        for (String soil : "f z aa ab anya an g t land holds".split(" ")) {
            fault(7, ALL + ";holds g t |" + soil + " 0 to 24");
        }
        for (String soil : "0 ; ,".split(" ")) {
            fault(1, ALL + ";holds g t |" + soil + " 0 to 24");
        }
        whole(0, 23, ALL + ";holds g t a | to 24");
        for (int from = 0; from <= 23; from++) {
            whole(from + 1, 24, ALL + ";holds g t a " + from + " to |");
            fault(4, ALL + ";holds g t a " + from + " to |" + from);
        }
        for (int n = 0; n <= 16; n++) {
            Checks.due("holds", n, good(ALL + ";holds g t a 0 to 1".repeat(n)).size(5));
        }
        fault(5, ALL + ";holds g t a 0 to 1".repeat(16) + ";|holds g t a 0 to 1");
        fault(5, ALL + ";holds g t a 0 to 1".repeat(16) + ";|holds x");
    }

    private static final String FOUR = HEAD + Texts.ROW + ";thing t;thing u;thing v" + ";god g" + GOD + ";god h" + GOD
            + ";god i" + GOD + ";god j" + GOD;

    /** So many of the twelve sendings of three things by four gods. */
    private static String sendings(int n) {
        StringBuilder all = new StringBuilder(FOUR);
        for (int i = 0; i < n; i++) {
            char god = (char) ('g' + i / 3);
            all.append(";sends ").append(god).append(' ').append((char) ('t' + i % 3));
            all.append(god == 'g' ? " h" : " g");
        }
        return all.toString();
    }

    /** "sends GOD THING GOD (unlike GODS; once for GOD and THING; up to 12), or bars GOD GOD (unlike; once; up to 6)" */
    private static void sendsAndBarsLines() {
        for (int n = 0; n <= 12; n++) {
            PrayerWay way = good(sendings(n));
            for (int i = 0; i < 12; i++) {
                int other = i / 3 == 0 ? 1 : 0;
                Checks.told("sending " + i + " of " + n, way, i < n ? other : -2, way.sends(i / 3, i % 3));
            }
        }
        String five = sendings(12) + ";god k" + GOD;
        fault(5, five + ";|sends k t g");
        fault(5, five + ";|sends");
        fault(3, ALL + ";sends g t |g");
        fault(3, ALL + ";sends g t h;sends g |t h");
        fault(3, FOUR + ";sends g t h;sends g |t i");
        fault(3, ALL + ";sends g t h;sends g |t g");
        fault(3, ALL + ";sends g t h;sends g |t x");
        fault(3, ALL + ";sends g t h;sends g |t");
        good(ALL + ";sends g t h;sends g u h;sends h t g;sends h u g");
        String bars = ";bars g h;bars h g;bars g i;bars i g;bars h i;bars i h";
        for (int n = 0; n <= 6; n++) {
            PrayerWay way = good(FOUR + bars.substring(0, 9 * n));
            int sum = 0;
            for (int god = 0; god < 4; god++) {
                for (int other = 0; other < 4; other++) {
                    sum += god != other ? way.bars(god, other) : 0;
                }
            }
            Checks.due("so many are barred", n, sum);
        }
        fault(5, FOUR + bars + ";|bars g j");
        fault(5, FOUR + bars + ";|bars");
        fault(3, ALL + ";bars g |g");
        fault(3, ALL + ";bars g h;bars g |h");
        fault(3, FOUR + ";bars g h;bars g i;bars h g;bars g |h");
        fault(3, FOUR + ";bars g h;bars g |g");
    }

    /** "prayer NAME THING at WHOLE, WHOLE hour WHOLE starts GOD WHOLE gift WHOLE need WHOLE (x, y; ..; up to 8)" */
    private static void prayerLine() {
        for (int wide = 2; wide <= 6; wide++) {
            for (int high = 1; high <= 4; high++) {
                String head = "land wide " + wide + " high " + high + " law first"
                        + ";row aaaaaa".substring(0, 5 + wide).repeat(high) + ";thing t;god g" + GOD;
                String prayer = head + ";prayer p t at |,0 hour 0 starts g 0 gift 0 need 0";
                whole(0, wide - 1, prayer);
                whole(0, high - 1, prayer.replace("|,0", "0,|"));
                whole(0, wide - 1, head + ";village v at |,0 saint g");
                whole(0, high - 1, head + ";village v at 0,| saint g");
                PrayerWay last = good(head + ";prayer p t at " + (wide - 1) + "," + (high - 1)
                        + " hour 0 starts g 0 gift 0 need 0;village v at " + (wide - 1) + "," + (high - 1) + " saint g");
                Checks.told("the last cell", last, wide * high - 1, last.prayer(0, 1));
                Checks.told("the last cell", last, wide * high - 1, last.village(0, 0));
            }
        }
        whole(0, 23, ALL + ";prayer p t at 0,0 hour | starts g 0 gift 0 need 0");
        whole(0, 23, ALL + ";prayer p t at 0,0 hour 0 starts g | gift 0 need 0");
        whole(0, 99, ALL + ";prayer p t at 0,0 hour 0 starts g 0 gift | need 0");
        whole(0, 99, ALL + ";prayer p t at 0,0 hour 0 starts g 0 gift 0 need |");
        for (int n = 0; n <= 8; n++) {
            Checks.due("prayers", n, good(ALL + Texts.times(n, ";prayer #" + Texts.PRAYER)).size(6));
        }
        fault(5, ALL + Texts.times(8, ";prayer #" + Texts.PRAYER) + ";|prayer x" + Texts.PRAYER);
        fault(5, ALL + Texts.times(8, ";prayer #" + Texts.PRAYER) + ";|prayer i");
        fault(5, ALL + Texts.times(8, ";prayer #" + Texts.PRAYER) + ";|prayer");
    }

    /** "clash PRAYER PRAYER (unlike; once; up to 8)" */
    private static void clashLine() {
        String prayers = ALL + Texts.times(8, ";prayer #" + Texts.PRAYER);
        String clashes = ";clash i j;clash i k;clash i l;clash i m;clash i n;clash i o;clash i p;clash p j";
        for (int n = 0; n <= 8; n++) {
            Checks.due("clashes", n, good(prayers + clashes.substring(0, 10 * n)).size(7));
        }
        fault(5, prayers + clashes + ";|clash k l");
        fault(5, prayers + clashes + ";|clash i j");
        fault(5, prayers + clashes + ";|clash");
        for (int p = 0; p < 8; p++) {
            char name = (char) ('i' + p);
            fault(3, prayers + ";clash " + name + " |" + name);
        }
        fault(3, prayers + ";clash i p;clash i |p");
        fault(3, prayers + ";clash i p;clash p |i");
        fault(3, prayers + ";clash i p;clash i o;clash o p;clash p |i");
    }

    /**
     * "village .. (up to 4), or spell SORT WHOLE (..; 1 .. 9; up to 6), or saw THING SOIL WHOLE ANSWER (SOIL not any;
     * 0 .. 23; ..; up to 8)"
     */
    private static void lastLines() {
        for (int n = 0; n <= 4; n++) {
            Checks.due("villages", n, good(ALL + Texts.times(n, ";village # at 0,0 saint g")).size(8));
        }
        fault(5, ALL + Texts.times(4, ";village # at 0,0 saint g") + ";|village x at 0,0 saint g");
        fault(5, ALL + Texts.times(4, ";village # at 0,0 saint g") + ";|village");
        for (String sort : "adds takes times shares".split(" ")) {
            whole(1, 9, ALL + ";spell " + sort + " |");
            for (int n = 0; n <= 6; n++) {
                Checks.due("spells", n, good(ALL + (";spell " + sort + " 1").repeat(n)).size(9));
            }
            fault(5, ALL + (";spell " + sort + " 1").repeat(6) + ";|spell " + sort + " 1");
            fault(5, ALL + (";spell " + sort + " 1").repeat(6) + ";|spell");
        }
        for (String sort : "add adding takess any spell 1".split(" ")) {
            fault(1, ALL + ";spell |" + sort + " 1");
        }
        for (String soil : "a b c d e".split(" ")) {
            good(ALL + ";saw t " + soil + " 0 yes;saw t " + soil + " 23 no");
        }
        for (String soil : "any f z ab t saw".split(" ")) {
            fault(7, ALL + ";saw t |" + soil + " 0 yes");
        }
        fault(1, ALL + ";saw t |0 yes");
        fault(1, ALL + ";saw |any a 0 yes");
        whole(0, 23, ALL + ";saw t a | yes");
        for (String answer : "maybe ye yess noo any 1 ;".split(" ")) {
            fault(1, ALL + ";saw t a 0 |" + answer);
        }
        for (int n = 0; n <= 8; n++) {
            Checks.due("saw", n, good(ALL + ";saw t a 0 no".repeat(n)).size(10));
        }
        fault(5, ALL + ";saw t a 0 no".repeat(8) + ";|saw t a 0 no");
        fault(5, ALL + ";saw t a 0 no".repeat(8) + ";|saw");
    }

    // ---- names

    /** "NAMES are WORDS but land, .., any" */
    private static void reserved() {
        for (String word : Texts.RESERVED) {
            fault(1, ALL + ";thing |" + word);
            fault(1, ALL + ";god |" + word + GOD);
            fault(1, ALL + ";prayer |" + word + Texts.PRAYER);
            fault(1, ALL + ";village |" + word + " at 0,0 saint g");
            fault(1, ALL + ";holds |" + word + " t a 0 to 1");
            fault(1, ALL + ";sends |" + word + " t h");
            fault(1, ALL + ";sends g |" + word + " h");
            fault(1, ALL + ";sends g t |" + word);
            fault(1, ALL + ";bars |" + word + " h");
            fault(1, ALL + ";bars g |" + word);
            fault(1, ALL + ";prayer p |" + word + " at 0,0");
            fault(1, ALL + ";prayer p t at 0,0 hour 0 starts |" + word + " 0");
            fault(1, PRAYERS + ";clash |" + word + " q");
            fault(1, PRAYERS + ";clash p |" + word);
            fault(1, ALL + ";village v at 0,0 saint |" + word);
            fault(1, ALL + ";saw |" + word + " a 0 no");
            if (!word.equals("any")) {
                fault(1, ALL + ";holds g |" + word + " a 0 to 1");
            }
            good(ALL + ";thing " + (word + "x") + ";thing x" + word);
        }
        String others = "wide high law first gift need plain proud jealous asleep price serves from to at hour starts"
                + " saint adds takes times shares yes no a b c d e f";
        for (String word : others.split(" ")) {
            good(ALL + ";thing " + word + ";holds g " + word + " a 0 to 1;saw " + word + " b 0 no");
            good(ALL + ";god " + word + GOD + ";bars " + word + " g;holds " + word + " t a 0 to 1;sends g t " + word);
            good(PRAYERS + ";prayer " + word + Texts.PRAYER + ";clash p " + word);
            good(ALL + ";village " + word + " at 0,0 saint g");
        }
    }

    private static String telling(String sort, String name) {
        switch (sort) {
            case "thing":
                return ";thing " + name;
            case "god":
                return ";god " + name + GOD;
            case "prayer":
                return ";prayer " + name + Texts.PRAYER;
            default:
                return ";village " + name + " at 0,0 saint g";
        }
    }

    /** "each told once, ahead of its use"; "2 a NAME that isn't told, or is of another sort"; "3 a NAME told again" */
    private static void toldOnce() {
        String[] sorts = {"thing", "god", "prayer", "village"};
        String[] uses = {"holds @god", "holds g @thing", "sends @god", "sends g @thing", "sends g t @god", "bars @god",
            "bars g @god", "prayer r @thing", "prayer r t at 0,0 hour 0 starts @god", "clash @prayer", "clash p @prayer",
            "village w at 0,0 saint @god", "saw @thing"};
        for (String first : sorts) {
            for (String second : sorts) {
                fault(3, ALL + telling(first, "x") + telling(second, "|x"));
            }
            for (String use : uses) {
                int at = use.indexOf('@');
                String text = ";" + use.substring(0, at);
                boolean same = use.substring(at + 1).equals(first);
                if (same) {
                    String told = PRAYERS + telling(first, "x") + text + "x";
                    Texts.faultAt(1, told.length() + 1, told + " #");
                } else {
                    fault(2, PRAYERS + telling(first, "x") + text + "|x");
                    fault(2, PRAYERS + telling(first, "x") + text + "|x #");
                }
                fault(2, PRAYERS + text + "|x");
                fault(2, PRAYERS + text + "|x" + telling(first, "x"));
            }
        }
        fault(2, ALL + ";prayer p |p at 0,0");
        fault(2, ALL + ";prayer p t at 0,0 hour 0 starts |p 0");
        fault(2, ALL + ";village v at 0,0 saint |v");
        fault(3, ALL + ";god x asleep price 0 serves 1 from 0 to 1;thing |x");
    }

    // ---- faults against one another

    /** "the first that is met from the left" */
    private static void fromTheLeft() {
        fault(4, "land wide |7 high 9 law odd;#");
        fault(1, "land wide 2 high 1 law |odd;row abc");
        fault(7, HEAD + ";row |abc;thing #");
        fault(2, HEAD + ";holds |g t f 99 to 0");
        fault(7, ALL + ";holds g t |f 99 to 0");
        fault(4, ALL + ";holds g t a |99 to 0");
        fault(1, ALL + ";holds g t a 9 |9 to 0");
        fault(4, ALL + ";holds g t a 9 to |0;row ab;#");
        fault(5, ALL + ";|row ab;#");
        fault(3, ALL + ";thing |t;land");
        fault(6, HEAD + ";thing t|");
        fault(1, HEAD + ";thing t|#");
        fault(2, ALL + ";bars |x x");
        fault(2, ALL + ";bars g |x;bars g g");
        fault(4, ALL + ";village v at |2,9 saint x");
        fault(4, ALL + ";village v at 1,|9 saint x");
        fault(2, ALL + ";village v at 1,0 saint |x;");
    }

    /** "of one place the least number" */
    private static void ofOnePlace() {
        fault(1, "|");
        fault(1, "     |");
        fault(1, "|x");
        fault(1, "|any");
        fault(1, "|wide");
        fault(1, "|5");
        fault(1, "|landed");
        fault(1, HEAD + ";|");
        fault(1, HEAD + ";thing|");
        fault(1, HEAD + Texts.ROW + ";thing t;god g plain price 0 serves 1 from 0|");
        fault(3, ALL + ";|land");
        fault(3, ALL + ";|land wide 2 high 1 law first");
        fault(3, HEAD + ";|land;row ab");
        fault(3, ALL + ";luck 1;|luck");
        fault(1, "land wide |12345 high 1 law first");
        fault(1, HEAD + ";row |abcdefghi");
        fault(3, ALL + ";bars g h;bars g |g");
    }

    /** "6 LACKS: any LINE ahead of the land; at its WORD; at the end: a row, a thing, a god" */
    private static void lacks() {
        for (String sort : Texts.SORTS) {
            if (!sort.equals("land")) {
                fault(6, "|" + sort);
                fault(6, "  |" + sort + " #");
                fault(6, "|" + sort + ";" + ALL);
            }
        }
        String row = Texts.ROW;
        String thing = ";thing t";
        String god = ";god g" + GOD;
        good(HEAD + row + thing + god);
        good(HEAD + god + thing + row);
        fault(6, HEAD + thing + god + "|");
        fault(6, HEAD + row + god + "|");
        fault(6, HEAD + row + thing + "|");
        fault(6, HEAD + row + "|");
        fault(6, HEAD + thing + "|");
        fault(6, HEAD + god + "|");
        fault(6, HEAD + "|");
        fault(6, HEAD + row + thing + "    |");
        fault(6, HEAD + thing + god + ";luck 5;spell adds 1;holds g t a 0 to 1|");
    }

    /** "TOKEN with which no LAND goes on (the end: its place)": each line cut short behind each of its tokens. */
    private static void cutShort() {
        String[] lines = {"row ab", "thing x", "luck 5", "god x plain price 0 serves 1 from 0 to 24", "holds g t a 0 to 1",
            "holds g any any 0 to 1", "sends g t h", "bars g h", "prayer x t at 0 , 0 hour 0 starts g 0 gift 0 need 0",
            "clash p q", "village x at 0 , 0 saint g", "spell adds 1", "saw t a 0 yes"};
        for (String line : lines) {
            boolean row = line.startsWith("row");
            String before = row ? PRAYERS.replace(Texts.ROW, "") : PRAYERS;
            String[] tokens = line.split(" ");
            String text = before + ";";
            for (int i = 0; i < tokens.length; i++) {
                fault(1, text + "|");
                fault(1, text + "   |");
                fault(1, text + "|;luck 9");
                fault(1, text + (tokens[i].equals(",") ? ",|," : "|,"));
                fault(1, text + "|#");
                fault(1, text + "|abcdefghi");
                fault(1, text + "|1234");
                text += tokens[i] + " ";
            }
            good(text);
            good(text + ";luck 9".repeat(line.startsWith("luck") ? 0 : 1));
            fault(1, text + "|, ");
            fault(1, text + "|x");
            fault(1, text + "|7");
            fault(1, text + "|luck 9");
        }
        String[] tokens = "land wide 2 high 1 law first".split(" ");
        String text = "";
        for (String token : tokens) {
            fault(1, text + "|");
            fault(1, text + "|;");
            fault(1, text + "|,");
            text += token + " ";
        }
        fault(6, text + "|");
    }

    public static void main(String[] args) {
        cutShort();
        blanks();
        everyByte();
        signs();
        lengths();
        unlikeNames();
        landLine();
        rowLine();
        thingAndLuckLines();
        godLine();
        holdsLine();
        sendsAndBarsLines();
        prayerLine();
        clashLine();
        lastLines();
        reserved();
        toldOnce();
        fromTheLeft();
        ofOnePlace();
        lacks();
        Checks.end("TextBoundsTest");
    }
}
