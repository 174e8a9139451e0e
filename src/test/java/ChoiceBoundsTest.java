import java.util.Set;
import java.util.TreeSet;

/** Terms III up to ASK, sentence by sentence: best starts, rings, sets of grants and gods, villages, spells, sights. */
public final class ChoiceBoundsTest {
    private static final String HEAD = "land wide 2 high 1 law first;row ab;thing t;thing u";

    private static String god(char name, String kind, int from, int to) {
        return ";god " + name + " " + kind + " price 0 serves 9 from " + from + " to " + to;
    }

    /** So many plain gods from g on, always in. */
    private static String gods(int n) {
        StringBuilder all = new StringBuilder(HEAD);
        for (int i = 0; i < n; i++) {
            all.append(god((char) ('g' + i), "plain", 0, 24));
        }
        return all.toString();
    }

    private static String prayer(char name, char god, int start) {
        return ";prayer " + name + " t at 0,0 hour 0 starts " + god + " " + start + " gift 0 need 0";
    }

    // ---- one prayer by itself

    /** "ALONE: one PRAYER by itself, begun at some GOD's altar, in its starting hour." */
    private static void alone() {
        // g serves one an hour; with the others there p would wait, alone it doesn't.
        PrayerWay way = Checks.fresh(HEAD + ";god g plain price 0 serves 1 from 0 to 24" + god('h', "plain", 5, 6)
                + god('i', "plain", 0, 24) + ";holds g t a 0 to 24;holds h t a 0 to 24" + prayer('n', 'g', 23)
                + prayer('o', 'g', 23) + prayer('p', 'g', 23));
        Checks.told("with the others", way, 25, way.when(2));
        Checks.told("alone", way, 23, way.alone(2, 0));
        Checks.told("with h, in the next day", way, 29, way.alone(2, 1));
        Checks.told("with i, who has nothing", way, -2, way.alone(2, 2));
        Checks.told("the days stay as they are", way, 25, way.when(2));
        way.sleep(0, true);
        Checks.told("g sleeps", way, -2, way.alone(2, 0));
    }

    /** "BEST START: the GOD with whom, ALONE, it is GRANTED soonest, the first such"; "-2 if it is GRANTED from none" */
    private static void starts() {
        PrayerWay none = Checks.fresh(gods(6) + prayer('p', 'g', 0));
        Checks.told("from none", none, -2, none.start(0));
        for (int n = 0; n < 6; n++) {
            char name = (char) ('g' + n);
            PrayerWay one = Checks.fresh(gods(6) + ";holds " + name + " t a 0 to 1" + prayer('p', 'g', 0));
            Checks.told("only with " + name, one, n, one.start(0));
        }
        PrayerWay like = Checks.fresh(gods(6) + ";holds h t a 0 to 1;holds k t a 0 to 1;holds l t a 0 to 1"
                + prayer('p', 'g', 0));
        Checks.told("the first of like ones", like, 1, like.start(0));
        PrayerWay sooner = Checks.fresh(HEAD + god('g', "plain", 6, 24) + god('h', "plain", 5, 24) + god('i', "plain", 5, 24)
                + ";holds g t a 0 to 1;holds h t a 0 to 1;holds i t a 0 to 1" + prayer('p', 'g', 0));
        Checks.told("soonest, not first told", sooner, 1, sooner.start(0));
        // All of them only on the next day: still the soonest.
        PrayerWay next = Checks.fresh(HEAD + god('g', "plain", 4, 5) + god('h', "plain", 3, 4) + ";holds g t a 0 to 1"
                + ";holds h t a 0 to 1" + prayer('p', 'g', 23));
        Checks.told("with g", next, 28, next.alone(0, 0));
        Checks.told("with h", next, 27, next.alone(0, 1));
        Checks.told("h", next, 1, next.start(0));
        next.sleep(1, true);
        Checks.told("g", next, 0, next.start(0));
        // Granted in the last hour of all is granted still.
        String chain = HEAD + god('g', "plain", 0, 1) + god('h', "plain", 0, 1) + god('i', "plain", 0, 1)
                + god('j', "plain", 23, 24) + ";holds j t a 0 to 1;sends g t h;sends h t i;sends i t j" + prayer('p', 'g', 1);
        PrayerWay last = Checks.fresh(chain);
        Checks.told("with g in hour 95", last, 95, last.alone(0, 0));
        Checks.told("with j in hour 23", last, 23, last.alone(0, 3));
        Checks.told("j", last, 3, last.start(0));
        PrayerWay proud = Checks.fresh(chain.replace("j plain", "j proud"));
        Checks.told("with g no more", proud, -2, proud.alone(0, 0));
        Checks.told("with j himself", proud, 23, proud.alone(0, 3));
    }

    /** "RING: .. how many GODS are in the ring": from two to six, with and without a way that leads to it. */
    private static void rings() {
        for (int n = 2; n <= 6; n++) {
            for (int entry = 0; entry < n; entry++) {
                // All in a row, and the last sends back to the one told by entry.
                StringBuilder text = new StringBuilder(gods(6));
                for (int i = 0; i < n; i++) {
                    int other = i + 1 < n ? i + 1 : entry;
                    if (other != i) {
                        text.append(";sends ").append((char) ('g' + i)).append(" t ").append((char) ('g' + other));
                    }
                }
                int ring = entry < n - 1 ? n - entry : -2;
                PrayerWay way = Checks.fresh(text + prayer('p', 'g', 0));
                Checks.told("ring of " + n + " from " + entry, way, ring, way.ring(0));
                PrayerWay last = Checks.fresh(text + prayer('p', (char) ('g' + n - 1), 0));
                Checks.told("begun at its end", last, ring, last.ring(0));
                PrayerWay other = Checks.fresh(text + ";prayer p u at 0,0 hour 0 starts g 0 gift 0 need 0");
                Checks.told("of another thing", other, -2, other.ring(0));
                PrayerWay barred = Checks.fresh(text + ";bars " + (char) ('g' + n - 2) + " " + (char) ('g' + n - 1)
                        + prayer('p', 'g', 0));
                Checks.told("one that is barred", barred, -2, barred.ring(0));
                if (ring > 0) {
                    way.send(n - 1, 0, -2);
                    Checks.told("till none is sent to", way, -2, way.ring(0));
                }
            }
        }
        // Hours, gifts and grants aside: asleep, dear, and with a grant in the first hour.
        PrayerWay aside = Checks.fresh(HEAD + god('g', "asleep", 0, 1) + god('h', "proud", 3, 4) + ";holds g any any 0 to 24"
                + ";holds h any any 0 to 24;sends g t h;sends h t g" + prayer('p', 'h', 3));
        Checks.told("granted", aside, 0, aside.fate(0));
        Checks.told("all aside", aside, 2, aside.ring(0));
        // Only he who sends may bar: that he is barred himself ends nothing.
        PrayerWay back = Checks.fresh(gods(2) + ";sends g t h;sends h t g;bars g h" + prayer('p', 'g', 0) + prayer('q', 'h', 0));
        Checks.told("g bars h", back, -2, back.ring(0));
        Checks.told("from h", back, -2, back.ring(1));
    }

    // ---- grants

    /** "HOLD TOGETHER: the most PRAYERS GRANTED that don't clash; of like ones the least bits." */
    private static void together() {
        StringBuilder eight = new StringBuilder(gods(1) + ";holds g t a 0 to 1");
        for (char name = 'm'; name <= 't'; name++) {
            eight.append(";prayer " + name + "x t at 0,0 hour 0 starts g 0 gift 0 need 0");
        }
        PrayerWay all = Checks.fresh(eight.toString());
        Checks.told("all eight", all, 255, all.together());
        Checks.told("none offended", all, 0, all.offended());
        all.price(0, 1);
        Checks.told("none is granted", all, 0, all.together());
        Checks.told("none offended either", all, 0, all.offended());
        PrayerWay pairs = Checks.fresh(eight + ";clash mx nx;clash ox px;clash qx rx;clash sx tx");
        Checks.told("one of each pair, the least", pairs, 1 + 4 + 16 + 64, pairs.together());
        Checks.told("g alone is offended", pairs, 1, pairs.offended());
        PrayerWay star = Checks.fresh(eight + ";clash mx nx;clash mx ox;clash mx px;clash mx qx;clash mx rx;clash mx sx"
                + ";clash mx tx");
        Checks.told("all but the first", star, 254, star.together());
        PrayerWay last = Checks.fresh(eight + ";clash tx nx;clash tx ox;clash tx px;clash tx qx;clash tx rx;clash tx sx"
                + ";clash tx mx");
        Checks.told("all but the last", last, 127, last.together());
        PrayerWay one = Checks.fresh(eight + ";clash sx tx");
        Checks.told("the least bits", one, 127, one.together());
        PrayerWay none = Checks.fresh(gods(1));
        Checks.told("no prayers", none, 0, none.together());
        Checks.told("no prayers, none offended", none, 0, none.offended());
    }

    /** "the fewest GODS to offend so that the others don't clash, as bits of like ones the least" */
    private static void offended() {
        // Each of six gods grants one; the last two grant two of the eight.
        StringBuilder text = new StringBuilder(gods(6) + ";holds g t a 0 to 1;holds h t a 0 to 1;holds i t a 0 to 1"
                + ";holds j t a 0 to 1;holds k t a 0 to 1;holds l t a 0 to 1");
        String names = "mnopqrsz";
        String granting = "ghijklkl";
        for (int p = 0; p < 8; p++) {
            text.append(prayer(names.charAt(p), granting.charAt(p), 0));
        }
        String plain = text.toString();
        PrayerWay first = Checks.fresh(plain + ";clash m n");
        Checks.told("g or h: g", first, 1, first.offended());
        PrayerWay within = Checks.fresh(plain + ";clash q s");
        Checks.told("both are k's", within, 16, within.offended());
        PrayerWay last = Checks.fresh(plain + ";clash m r;clash n z;clash o r");
        Checks.told("l alone is in all", last, 32, last.offended());
        PrayerWay three = Checks.fresh(plain + ";clash m n;clash o p;clash q r");
        Checks.told("one of each, the least", three, 1 + 4 + 16, three.offended());
        PrayerWay most = Checks.fresh(plain + ";clash m n;clash m o;clash n o;clash p q;clash p r;clash q r");
        Checks.told("two of three, twice", most, 1 + 2 + 8 + 16, most.offended());
        PrayerWay other = Checks.fresh(plain + ";clash m s;clash n q");
        Checks.told("k for both, not g and h", other, 16, other.offended());
    }

    // ---- offices

    /** "KEEP: the fewest GODS (ASLEEP or not; none, if nothing is HAD)"; "ONCE: .. no two of them one POINT; likewise" */
    private static void offices() {
        PrayerWay none = Checks.fresh(gods(6));
        Checks.told("nothing is had: keep", none, 0, none.keep());
        Checks.told("nothing is had: once", none, 0, none.once());
        PrayerWay off = Checks.fresh(gods(2) + ";holds h any c 0 to 24;holds g any d 0 to 24");
        Checks.told("nothing on the land: keep", off, 0, off.keep());
        Checks.told("nothing on the land: once", off, 0, off.once());
        StringBuilder each = new StringBuilder(gods(6));
        for (int i = 0; i < 6; i++) {
            each.append(";holds " + (char) ('g' + i) + " u b " + 4 * i + " to " + (4 * i + 4));
        }
        PrayerWay six = Checks.fresh(each.toString());
        Checks.told("all six", six, 63, six.keep());
        Checks.told("all six, once", six, 63, six.once());
        for (int i = 0; i < 6; i++) {
            six.sleep(i, true);
        }
        Checks.told("asleep or not", six, 63, six.keep());
        Checks.told("asleep or not, once", six, 63, six.once());
        // One point that two have, and nothing else does: it can't be.
        PrayerWay one = Checks.fresh(each + ";holds g u b 4 to 5");
        Checks.told("all six still", one, 63, one.keep());
        Checks.told("not once", one, -2, one.once());
        // That point where no cell is: it can.
        PrayerWay away = Checks.fresh(each + ";holds g u c 4 to 5;holds h u c 4 to 5");
        Checks.told("off the land it doesn't count", away, 63, away.once());
        // Each thing on each soil counts, be its number the soil's or not, and the last soil too.
        PrayerWay cross = Checks.fresh("land wide 2 high 1 law need;row ea;thing t;thing u" + god('g', "plain", 0, 1)
                + god('h', "plain", 0, 1) + god('i', "plain", 0, 1)
                + ";holds g u a 0 to 1;holds h t e 0 to 1;holds i u e 0 to 1");
        Checks.told("three of three", cross, 7, cross.keep());
        Checks.told("three of three, once", cross, 7, cross.once());
        PrayerWay like = Checks.fresh(gods(6) + ";holds h t a 0 to 9;holds k t a 0 to 9;holds l t a 0 to 9");
        Checks.told("of like ones the least", like, 2, like.keep());
        Checks.told("of like ones the least, once", like, 2, like.once());
        PrayerWay last = Checks.fresh(gods(6) + ";holds l any any 0 to 24;holds g t a 0 to 24;holds h t b 0 to 24"
                + ";holds i u a 0 to 24;holds j u b 0 to 24");
        Checks.told("the last alone", last, 32, last.keep());
        Checks.told("the last alone, once", last, 32, last.once());
        // k and l have all, but share hour 12; g, h and i have all in three parts.
        PrayerWay parts = Checks.fresh(gods(6) + ";holds k t a 0 to 13;holds l t a 12 to 24;holds g t a 0 to 12"
                + ";holds h t a 12 to 23;holds i t a 23 to 24");
        Checks.told("g with l is fewest, and less than k with l", parts, 1 + 32, parts.keep());
        Checks.told("g and l share nothing", parts, 1 + 32, parts.once());
    }

    // ---- villages

    /** "CONTENT .. by how many villages have that saint, downwards; 0 if he is ASLEEP" */
    private static void content() {
        for (int had = 0; had <= 24; had++) {
            for (int n = 1; n <= 4; n++) {
                String holds = had > 0 ? ";holds g t a 0 to " + had : "";
                PrayerWay way = Checks.fresh(gods(2) + holds + ";holds g t b 0 to 24;holds h t b 0 to 24"
                        + Texts.times(n, ";village v# at 0,0 saint g"));
                for (int v = 0; v < n; v++) {
                    Checks.told(had + " by " + n, way, had / n, way.content(v));
                }
            }
        }
        PrayerWay all = Checks.fresh(HEAD + Texts.times(4, ";thing #") + god('g', "plain", 0, 1) + god('h', "asleep", 0, 1)
                + ";holds g any any 0 to 24;holds h any any 0 to 24;village v at 1,0 saint g;village w at 1,0 saint h");
        Checks.told("six things, all hours", all, 144, all.content(0));
        Checks.told("asleep by kind", all, 0, all.content(1));
        all.sleep(0, true);
        Checks.told("put to sleep", all, 0, all.content(0));
    }

    /** "The saint with whom it would be most CONTENT, the others staying, the first such." */
    private static void saints() {
        PrayerWay like = Checks.fresh(gods(6) + ";holds i t a 0 to 5;holds l t a 3 to 8;village v at 0,0 saint l");
        Checks.told("the first of like ones, though it has another", like, 2, like.saint(0));
        Checks.told("at rest all the same", like, 1, like.rest());
        Checks.told("two rows", like, 2, like.rests());
        PrayerWay none = Checks.fresh(gods(6) + ";village v at 0,0 saint l");
        Checks.told("nobody has anything: the first", none, 0, none.saint(0));
        Checks.told("every row", none, 6, none.rests());
        PrayerWay last = Checks.fresh(gods(6) + ";holds l t a 0 to 1;village v at 0,0 saint g");
        Checks.told("the last", last, 5, last.saint(0));
        Checks.told("not at rest", last, 0, last.rest());
        Checks.told("one row", last, 1, last.rests());
        // By two downwards 1 is 0: as good as nothing.
        PrayerWay half = Checks.fresh(gods(2) + ";holds h t a 0 to 1;village v at 0,0 saint h;village w at 0,0 saint g");
        Checks.told("w wouldn't be more content", half, 0, half.saint(1));
        Checks.told("at rest", half, 1, half.rest());
        // g h, h g, h h: with both at h nobody is content, and nobody is so with g; g g: either would go.
        Checks.told("three rows", half, 3, half.rests());
    }

    /** "AT REST: no village would be more CONTENT with another GOD"; "RESTS: how many rows of saints are" */
    private static void rests() {
        int rows = 1;
        for (int n = 0; n <= 4; n++) {
            PrayerWay way = Checks.fresh(gods(6) + Texts.times(n, ";village v# at 0,0 saint g"));
            Checks.told("nobody has anything: at rest", way, 1, way.rest());
            Checks.told("every row of " + n, way, rows, way.rests());
            rows *= 6;
        }
        PrayerWay single = Checks.fresh(gods(1) + ";holds g t a 0 to 3" + Texts.times(4, ";village v# at 0,0 saint g"));
        Checks.told("one god", single, 1, single.rests());
        Checks.told("one god, at rest", single, 1, single.rest());
        // Two villages and two gods with ten each: they part, or either would.
        PrayerWay parted = Checks.fresh(gods(2) + ";holds g t a 0 to 10;holds h t a 0 to 10;village v at 0,0 saint g"
                + ";village w at 0,0 saint g");
        Checks.told("both with g", parted, 0, parted.rest());
        Checks.told("two rows", parted, 2, parted.rests());
        parted.changes(1, 1);
        Checks.told("parted", parted, 1, parted.rest());
        // Alike is no more: by 5 alone or by half of 10 there is nothing to gain.
        PrayerWay like = Checks.fresh(gods(2) + ";holds g t a 0 to 10;holds h t a 0 to 5;village v at 0,0 saint g"
                + ";village w at 0,0 saint g");
        Checks.told("as content with h", like, 1, like.rest());
        Checks.told("g g, g h, h g", like, 3, like.rests());
        PrayerWay none = Checks.fresh(gods(1));
        Checks.told("no villages: one empty row", none, 1, none.rests());
        Checks.told("no villages: at rest", none, 1, none.rest());
    }

    // ---- spells

    private static void spells(String lines, int left, int many, int least, int greatest) {
        PrayerWay way = Checks.fresh(gods(1) + lines);
        Checks.told("left of" + lines, way, left, way.left());
        Checks.told("ends of" + lines, way, many, way.ends(0));
        Checks.told("least of" + lines, way, least, way.ends(1));
        Checks.told("greatest of" + lines, way, greatest, way.ends(2));
    }

    /** "LEFT: luck, then spell by spell: adds, takes (0 at least), times, shares (divided, downwards)"; "ORDERS of all spells" */
    private static void spells() {
        spells("", 0, 1, 0, 0);
        spells(";luck 0", 0, 1, 0, 0);
        spells(";luck 99", 99, 1, 99, 99);
        spells(";luck 9;spell takes 9", 0, 1, 0, 0);
        spells(";luck 8;spell takes 9", 0, 1, 0, 0);
        spells(";luck 10;spell takes 9", 1, 1, 1, 1);
        spells(";spell takes 1", 0, 1, 0, 0);
        spells(";luck 9;spell shares 9", 1, 1, 1, 1);
        spells(";luck 8;spell shares 9", 0, 1, 0, 0);
        spells(";luck 17;spell shares 9", 1, 1, 1, 1);
        spells(";luck 18;spell shares 9", 2, 1, 2, 2);
        spells(";luck 5;spell shares 1", 5, 1, 5, 5);
        spells(";luck 5;spell times 1", 5, 1, 5, 5);
        spells(";luck 0;spell times 9", 0, 1, 0, 0);
        spells(";luck 99" + ";spell times 9".repeat(6), 52612659, 1, 52612659, 52612659);
        spells(";luck 99" + ";spell takes 9".repeat(6), 45, 1, 45, 45);
        spells(";luck 53" + ";spell takes 9".repeat(6), 0, 1, 0, 0);
        spells(";luck 99" + ";spell shares 9".repeat(6), 0, 1, 0, 0);
        spells(";luck 99" + ";spell adds 9".repeat(6), 153, 1, 153, 153);
        spells(";luck 0;spell takes 1;spell adds 1", 1, 2, 0, 1);
        spells(";luck 0;spell adds 1;spell takes 1", 0, 2, 0, 1);
        spells(";spell times 9;spell times 9;spell times 9;spell times 9;spell times 9;spell adds 9", 9, 6, 9, 9 * 59049);
        PrayerWay many = Checks.fresh(gods(1) + ";luck 97;spell adds 9;spell times 7;spell takes 8;spell shares 3"
                + ";spell times 9;spell takes 5");
        int[] sorts = {0, 2, 1, 3, 2, 1};
        int[] amounts = {9, 7, 8, 3, 9, 5};
        TreeSet<Integer> ends = new TreeSet<>();
        orders(97, sorts, amounts, 0, ends);
        Checks.due("many unlike ends", 1, ends.size() > 150 ? 1 : 0);
        Checks.told("of six spells", many, ends.size(), many.ends(0));
        Checks.told("the least", many, ends.first(), many.ends(1));
        Checks.told("the greatest", many, ends.last(), many.ends(2));
    }

    private static void orders(int luck, int[] sorts, int[] amounts, int used, Set<Integer> ends) {
        if (used == 63) {
            ends.add(luck);
        }
        for (int i = 0; i < 6; i++) {
            if ((used >> i & 1) == 0) {
                int next = sorts[i] == 0 ? luck + amounts[i] : sorts[i] == 1 ? Math.max(0, luck - amounts[i])
                        : sorts[i] == 2 ? luck * amounts[i] : luck / amounts[i];
                orders(next, sorts, amounts, used | 1 << i, ends);
            }
        }
    }

    // ---- what was seen

    /** "FITS: GODS who HAVE just what was seen with yes, and nothing that was seen with no"; "6 (fewer than two FIT)" */
    private static void fits() {
        PrayerWay all = Checks.fresh(gods(6) + ";holds g t a 0 to 1");
        Checks.told("nothing was seen: all six", all, 63, all.fits());
        Checks.told("ask", all, 0, all.ask());
        Checks.told("at most", all, 5, all.askMost());
        PrayerWay single = Checks.fresh(gods(1));
        Checks.told("one god: he fits", single, 1, single.fits());
        Checks.refused("one fits: ask", single, 6, single.ask());
        Checks.refused("one fits: askMost", single, 6, single.askMost());
        PrayerWay none = Checks.fresh(gods(2) + ";saw t a 0 yes");
        Checks.told("none fits", none, 0, none.fits());
        Checks.refused("none fits: ask", none, 6, none.ask());
        Checks.refused("none fits: askMost", none, 6, none.askMost());
        PrayerWay two = Checks.fresh(gods(3) + ";holds g t a 0 to 1;saw t a 0 no");
        Checks.told("two fit", two, 6, two.fits());
        Checks.told("two alike: the first point", two, 0, two.ask());
        Checks.told("both stay", two, 2, two.askMost());
        // Eight sights; the first hour and the last; a soil that no cell has.
        PrayerWay eight = Checks.fresh(gods(3) + ";holds g t a 0 to 24;holds h t a 0 to 24;holds h u c 23 to 24"
                + ";saw t a 0 yes;saw t a 23 yes;saw t b 0 no;saw t b 23 no;saw u a 0 no;saw u c 22 no;saw u c 0 no"
                + ";saw u c 23 yes");
        Checks.told("the eighth parts them", eight, 2, eight.fits());
        PrayerWay seven = Checks.fresh(gods(3) + ";holds g t a 0 to 24;holds h t a 0 to 24;holds h u c 23 to 24"
                + ";saw t a 0 yes;saw t a 23 yes;saw t b 0 no;saw t b 23 no;saw u a 0 no;saw u c 22 no;saw u c 0 no");
        Checks.told("seven leave two", seven, 3, seven.fits());
        PrayerWay asleep = Checks.fresh(gods(2) + ";saw t a 0 no");
        asleep.sleep(0, true);
        asleep.sleep(1, true);
        Checks.told("asleep or not", asleep, 3, asleep.fits());
    }

    /** "ASK: the POINT by whose answer fewest FIT at most, be it yes or no; of like ones the first by ORDER." */
    private static void ask() {
        String six = "land wide 5 high 1 law need;row abcde" + Texts.times(6, ";thing #x") + god('g', "plain", 0, 1)
                + god('h', "plain", 0, 1);
        PrayerWay last = Checks.fresh(six + ";holds h nx e 23 to 24");
        Checks.told("the last of all points", last, 5423, last.ask());
        Checks.told("one at most", last, 1, last.askMost());
        PrayerWay first = Checks.fresh(six + ";holds h any any 0 to 24");
        Checks.told("the first of all", first, 0, first.ask());
        // Of four: one has it, three have it, two have it.
        PrayerWay half = Checks.fresh(gods(4) + ";holds g t a 1 to 2;holds g t a 3 to 6;holds h t a 3 to 6;holds i t a 3 to 4"
                + ";holds i t b 0 to 1;holds j t b 0 to 1");
        Checks.told("the first that halves them", half, 4, half.ask());
        Checks.told("two at most", half, 2, half.askMost());
        PrayerWay five = Checks.fresh(gods(5) + ";holds g t a 7 to 8;holds h t a 7 to 8;holds i t a 7 to 8");
        Checks.told("three with yes", five, 7, five.ask());
        Checks.told("three at most", five, 3, five.askMost());
        PrayerWay alike = Checks.fresh(gods(6));
        Checks.told("six, and nothing parts them: the first point", alike, 0, alike.ask());
        Checks.told("all six stay", alike, 6, alike.askMost());
        // Where no cell is, nothing is asked.
        PrayerWay away = Checks.fresh(gods(2) + ";holds g t c 0 to 24");
        Checks.told("the first point, for nothing parts them", away, 0, away.ask());
        Checks.told("two at most", away, 2, away.askMost());
    }

    public static void main(String[] args) {
        alone();
        starts();
        rings();
        together();
        offended();
        offices();
        content();
        saints();
        rests();
        spells();
        fits();
        ask();
        Checks.end("ChoiceBoundsTest");
    }
}
