/** The end of Terms III, and promises 41 to 57 at their bounds: draws, acts kept and forgotten, marks, what is told. */
public final class ActBoundsTest {
    private static final String HEAD = "land wide 2 high 1 law first;row ab;thing t;thing u";
    private static final String THREE = HEAD + ";god g plain price 3 serves 1 from 0 to 24"
            + ";god h asleep price 0 serves 1 from 0 to 24;god i proud price 99 serves 9 from 23 to 24"
            + ";sends g t h;village v at 0,0 saint g;village w at 1,0 saint i"
            + ";prayer p t at 0,0 hour 0 starts g 0 gift 3 need 0;holds g t a 0 to 1";

    // ---- sleep

    /** "A GOD is put to sleep, or woken (one by KIND stays ASLEEP): .. 5 (it is so already)" */
    private static void sleep() {
        PrayerWay way = Checks.fresh(THREE);
        for (int god = 0; god < 3; god++) {
            int byKind = god == 1 ? 1 : 0;
            int from = god == 2 ? 23 : 0;
            Checks.no("not put to sleep yet", way, 5, way.sleep(god, false));
            Checks.yes("put to sleep", way, way.sleep(god, true));
            Checks.told("asleep", way, 1, way.god(god, 5));
            Checks.told("never in", way, 0, way.in(god, from));
            Checks.no("put to sleep already", way, 5, way.sleep(god, true));
            Checks.yes("woken", way, way.sleep(god, false));
            Checks.told("asleep by kind only", way, byKind, way.god(god, 5));
            Checks.told("in again, but by kind", way, 1 - byKind, way.in(god, from));
            Checks.no("woken already", way, 5, way.sleep(god, false));
            Checks.told("his kind stays", way, god == 0 ? 0 : god == 1 ? 3 : 1, way.god(god, 0));
        }
        Checks.due("six acts, the refused are none", 6, way.size(12));
    }

    // ---- age

    /** "a DRAW (SEED becomes (75 times SEED and 74) mod 65,537) mod the number of GODS" */
    private static void draws() {
        for (int gods = 1; gods <= 6; gods++) {
            String text = HEAD + Texts.times(gods, ";god #" + Texts.GOD);
            PrayerWay way = Checks.fresh(text);
            int[] seeds = {0, 1, 872, 873, 874, 875, 32768, 65461, 65462, 65535, 65536, before(0), before(1), before(65536)};
            for (int seed : seeds) {
                int next = (int) ((75L * seed + 74) % 65537);
                Checks.yes("seed", way, way.seed(seed));
                Checks.due("it is so", seed, way.size(11));
                int asleep = way.god(next % gods, 5);
                Checks.told("age of " + seed + " by " + gods, way, next % gods, way.age());
                Checks.due("the next seed", next, way.size(11));
                Checks.told("put to sleep, or woken", way, 1 - asleep, way.god(next % gods, 5));
            }
        }
        PrayerWay first = Checks.fresh(HEAD + Texts.times(5, ";god #" + Texts.GOD));
        Checks.due("SEED 0", 0, first.size(11));
        Checks.told("74 by five", first, 4, first.age());
        Checks.due("74", 74, first.size(11));
        Checks.told("only he sleeps", first, 1, first.god(4, 5));
        Checks.told("the others don't", first, 0, first.god(0, 5) + first.god(1, 5) + first.god(2, 5) + first.god(3, 5));
        Checks.due("one act", 1, first.size(12));
    }

    /** The SEED from which a DRAW leads to this one. */
    private static int before(int seed) {
        for (int s = 0; s < 65537; s++) {
            if ((75L * s + 74) % 65537 == seed) {
                return s;
            }
        }
        return -1;
    }

    /** "that one is put to sleep, or, if he was put so, woken": one by KIND stays ASLEEP, but is put so or not. */
    private static void ages() {
        PrayerWay way = Checks.fresh(HEAD + ";god h asleep price 0 serves 1 from 0 to 24");
        Checks.told("put to sleep", way, 0, way.age());
        Checks.no("it is so already", way, 5, way.sleep(0, true));
        Checks.told("woken", way, 0, way.age());
        Checks.told("asleep by kind", way, 1, way.god(0, 5));
        Checks.no("it is so already", way, 5, way.sleep(0, false));
        Checks.yes("undo", way, way.undo());
        Checks.due("the seed of the first", 74, way.size(11));
        Checks.no("put to sleep again", way, 5, way.sleep(0, true));
        Checks.yes("undo", way, way.undo());
        Checks.due("the seed at first", 0, way.size(11));
        Checks.no("nothing more", way, 6, way.undo());
    }

    // ---- price, send, saint, seed

    /** "PRICE (0 .. 99): .. 5 (it is that)" */
    private static void prices() {
        PrayerWay way = Checks.fresh(THREE);
        Checks.no("it is 99", way, 5, way.price(2, 99));
        Checks.yes("98", way, way.price(2, 98));
        Checks.yes("99", way, way.price(2, 99));
        Checks.no("it is 99 again", way, 5, way.price(2, 99));
        Checks.no("it is 0", way, 5, way.price(1, 0));
        Checks.yes("1", way, way.price(1, 1));
        Checks.yes("0", way, way.price(1, 0));
        Checks.no("100", way, 2, way.price(2, 100));
        Checks.no("-1", way, 2, way.price(1, -1));
        Checks.told("99 still", way, 99, way.god(2, 1));
        Checks.told("0 still", way, 0, way.god(1, 1));
        Checks.told("another's stays", way, 3, way.god(0, 1));
        Checks.due("four acts", 4, way.size(12));
        Checks.told("granted by 3", way, 0, way.fate(0));
        way.price(0, 4);
        Checks.told("sent on by 4, to h, who sleeps", way, 2, way.fate(0));
    }

    /** "SEND (other -2: none any more): .. 5 (himself, it is so already)" */
    private static void sendings() {
        PrayerWay way = Checks.fresh(THREE);
        for (int god = 0; god < 3; god++) {
            for (int thing = 0; thing < 2; thing++) {
                boolean told = god == 0 && thing == 0;
                Checks.told("as told", way, told ? 1 : -2, way.sends(god, thing));
                Checks.no("so already", way, 5, way.send(god, thing, told ? 1 : -2));
                Checks.no("himself", way, 5, way.send(god, thing, god));
                int other = god == 2 ? 0 : 2;
                Checks.yes("to another", way, way.send(god, thing, other));
                Checks.told("so it is", way, other, way.sends(god, thing));
                Checks.no("so already", way, 5, way.send(god, thing, other));
                Checks.no("himself still", way, 5, way.send(god, thing, god));
                Checks.yes("none any more", way, way.send(god, thing, -2));
                Checks.told("none", way, -2, way.sends(god, thing));
                Checks.no("none already", way, 5, way.send(god, thing, -2));
            }
        }
        Checks.due("twelve are kept", 12, way.size(12));
        PrayerWay one = Checks.fresh(HEAD + ";god g" + Texts.GOD);
        Checks.no("he is alone: none already", one, 5, one.send(0, 0, -2));
        Checks.no("himself", one, 5, one.send(0, 0, 0));
        Checks.no("no other", one, 1, one.send(0, 0, 1));
        // A barred one may be sent to; the prayer is dead then.
        PrayerWay barred = Checks.fresh(THREE + ";bars g i");
        barred.price(0, 9);
        Checks.yes("to one whom he bars", barred, barred.send(0, 0, 2));
        Checks.told("dead with g", barred, 1, barred.fate(0));
    }

    /** "SAINT: .. 5 (he is)"; "SEED (no ACT)" */
    private static void saintsAndSeeds() {
        PrayerWay way = Checks.fresh(THREE);
        Checks.no("he is", way, 5, way.changes(0, 0));
        Checks.no("he is", way, 5, way.changes(1, 2));
        Checks.yes("v: i", way, way.changes(0, 2));
        Checks.yes("w: g", way, way.changes(1, 0));
        Checks.told("v's", way, 2, way.village(0, 1));
        Checks.told("w's", way, 0, way.village(1, 1));
        Checks.due("two acts", 2, way.size(12));
        for (int seed : new int[] {0, 0, 65536, 65536, 1}) {
            Checks.yes("seed", way, way.seed(seed));
            Checks.due("seed", seed, way.size(11));
        }
        Checks.no("beyond", way, 2, way.seed(65537));
        Checks.no("below", way, 2, way.seed(-1));
        Checks.due("it stays", 1, way.size(11));
        Checks.due("two acts still", 2, way.size(12));
    }

    // ---- undo

    /** One act of each kind in turn, sure to be done. */
    private static void act(PrayerWay way, int i) {
        switch (i % 5) {
            case 0 -> Checks.yes("sleep", way, way.sleep(2, way.god(2, 5) == 0));
            case 1 -> Checks.due("age", 1, way.age() >= 0 ? 1 : 0);
            case 2 -> Checks.yes("price", way, way.price(1, 10 + i));
            case 3 -> Checks.yes("send", way, way.send(2, 1, way.sends(2, 1) == 0 ? 1 : 0));
            default -> Checks.yes("changes", way, way.changes(0, way.village(0, 1) == 0 ? 1 : 0));
        }
    }

    private static String state(PrayerWay way) {
        StringBuilder all = new StringBuilder().append(way.size(11));
        for (int god = 0; god < 3; god++) {
            all.append(' ').append(way.god(god, 1)).append(' ').append(way.god(god, 5));
            all.append(' ').append(way.sends(god, 0)).append(' ').append(way.sends(god, 1));
        }
        return all.append(' ').append(way.village(0, 1)).append(' ').append(way.village(1, 1)).append(' ')
                .append(way.fate(0)).toString();
    }

    private static void like(String what, String want, String got) {
        Checks.due(what + ": " + got + " as " + want, 1, want.equals(got) ? 1 : 0);
    }

    /** "UNDO: all, SEED too, is as ahead of the latest (12 are kept)": from none to twelve, and those beyond forgotten. */
    private static void undone() {
        for (int acts = 0; acts <= 15; acts++) {
            PrayerWay way = Checks.fresh(THREE);
            String[] states = new String[acts + 1];
            for (int i = 0; i < acts; i++) {
                states[i] = state(way);
                act(way, i);
                Checks.due("kept", Math.min(12, i + 1), way.size(12));
            }
            int kept = Math.min(12, acts);
            for (int i = 0; i < kept; i++) {
                Checks.yes("undo", way, way.undo());
                Checks.due("one less", kept - i - 1, way.size(12));
                like("as ahead of act " + (acts - 1 - i), states[acts - 1 - i], state(way));
            }
            String last = state(way);
            Checks.no("no more", way, 6, way.undo());
            like("nothing changed", last, state(way));
            act(way, 1);
            Checks.due("kept again", 1, way.size(12));
            Checks.yes("undone again", way, way.undo());
            like("as it was", last, state(way));
        }
    }

    /** Undoing leaves room for as many acts as were undone, and none is lost by it. */
    private static void undoneBetween() {
        PrayerWay way = Checks.fresh(THREE);
        for (int i = 0; i < 14; i++) {
            way.price(1, 20 + i);
        }
        for (int i = 0; i < 5; i++) {
            way.undo();
        }
        Checks.due("seven are kept", 7, way.size(12));
        Checks.told("the ninth", way, 28, way.god(1, 1));
        for (int i = 0; i < 6; i++) {
            way.price(1, 60 + i);
        }
        Checks.due("twelve are kept", 12, way.size(12));
        int[] ahead = {64, 63, 62, 61, 60, 28, 27, 26, 25, 24, 23, 22};
        for (int price : ahead) {
            Checks.yes("undo", way, way.undo());
            Checks.told("its price", way, price, way.god(1, 1));
        }
        Checks.no("no more", way, 6, way.undo());
    }

    /** SEED set between the acts is brought back too: to what it was ahead of the act. */
    private static void seedsUndone() {
        PrayerWay way = Checks.fresh(THREE);
        way.seed(7);
        way.price(0, 50);
        way.seed(8);
        way.age();
        Checks.due("drawn", 674, way.size(11));
        Checks.yes("undo", way, way.undo());
        Checks.due("ahead of the age", 8, way.size(11));
        way.seed(9);
        Checks.yes("undo", way, way.undo());
        Checks.due("ahead of the price", 7, way.size(11));
        Checks.no("seed is no act", way, 6, way.undo());
        Checks.due("it stays", 7, way.size(11));
    }

    // ---- marks

    /** "MARKS: up to 3; gone back to one, nothing can be undone"; "All is as by a MARK (all MARKS stay)" */
    private static void marks() {
        PrayerWay way = Checks.fresh(THREE);
        Checks.no("none yet", way, 1, way.back(0));
        String[] states = new String[3];
        for (int mark = 0; mark < 3; mark++) {
            for (int i = 0; i < 5; i++) {
                act(way, 5 * mark + i);
            }
            way.seed(1000 + mark);
            states[mark] = state(way);
            Checks.told("its number", way, mark, way.mark());
            Checks.due("so many", mark + 1, way.size(13));
            Checks.no("the next isn't yet", way, 1, way.back(mark + 1));
        }
        Checks.due("a mark is no act", 12, way.size(12));
        Checks.refused("a fourth", way, 3, way.mark());
        Checks.due("three", 3, way.size(13));
        for (int mark : new int[] {1, 0, 2, 2, 0, 1}) {
            act(way, 3);
            Checks.due("something to undo", 1, way.size(12) > 0 ? 1 : 0);
            Checks.yes("back", way, way.back(mark));
            like("as by mark " + mark, states[mark], state(way));
            Checks.due("nothing to undo", 0, way.size(12));
            Checks.no("nothing to undo", way, 6, way.undo());
            Checks.due("all stay", 3, way.size(13));
            Checks.refused("and no fourth", way, 3, way.mark());
        }
        Checks.no("none above", way, 1, way.back(3));
        Checks.no("none below", way, 1, way.back(-1));
        like("nothing changed", states[1], state(way));
        act(way, 3);
        Checks.yes("an act behind it can be undone", way, way.undo());
        like("as by the mark", states[1], state(way));
    }

    /** A mark of the very beginning, with nothing to undo; and one that an undo leaves where it is. */
    private static void markOfNothing() {
        PrayerWay way = Checks.fresh(THREE);
        String first = state(way);
        Checks.told("mark", way, 0, way.mark());
        Checks.yes("back to where it is", way, way.back(0));
        like("the same", first, state(way));
        way.price(0, 9);
        Checks.told("mark", way, 1, way.mark());
        Checks.yes("undo", way, way.undo());
        Checks.due("both marks stay", 2, way.size(13));
        Checks.yes("back to the second", way, way.back(1));
        Checks.told("9 again", way, 9, way.god(0, 1));
    }

    // ---- what is told

    /** Each number told of gods and prayers at its least and its greatest. */
    private static void told() {
        PrayerWay way = Checks.fresh("land wide 6 high 4 law need;row aaaaaa;row aaaaaa;row aaaaaa;row aaaaaa"
                + Texts.times(6, ";thing #x") + ";god a plain price 0 serves 1 from 0 to 1" + Texts.times(4, ";god #" + Texts.GOD)
                + ";god z asleep price 99 serves 9 from 23 to 24"
                + ";prayer p ix at 0,0 hour 0 starts a 0 gift 0 need 0;prayer q nx at 5,3 hour 23 starts z 23 gift 99 need 99"
                + ";sends a ix z;sends z nx a;bars a z;village v at 0,0 saint a;village w at 5,3 saint z");
        int[] least = {0, 0, 1, 0, 1, 0};
        int[] greatest = {3, 99, 9, 23, 24, 1};
        for (int what = 0; what < 6; what++) {
            Checks.told("god a, " + what, way, least[what], way.god(0, what));
            Checks.told("god z, " + what, way, greatest[what], way.god(5, what));
        }
        int[] first = {0, 0, 0, 0, 0, 0, 0};
        int[] last = {5, 23, 23, 5, 23, 99, 99};
        for (int what = 0; what < 7; what++) {
            Checks.told("prayer p, " + what, way, first[what], way.prayer(0, what));
            Checks.told("prayer q, " + what, way, last[what], way.prayer(1, what));
        }
        Checks.told("a sends the first to z", way, 5, way.sends(0, 0));
        Checks.told("z sends the last to a", way, 0, way.sends(5, 5));
        Checks.told("none", way, -2, way.sends(5, 0));
        Checks.told("a bars z", way, 1, way.bars(0, 5));
        Checks.told("z doesn't bar a", way, 0, way.bars(5, 0));
        Checks.told("v's cell", way, 0, way.village(0, 0));
        Checks.told("w's cell", way, 23, way.village(1, 0));
        Checks.told("w's saint", way, 5, way.village(1, 1));
    }

    /** "The i-th PRAYER that is GRANTED": none, one, all eight, and gaps between them. */
    private static void led() {
        for (int granted = 0; granted < 256; granted += 5) {
            StringBuilder text = new StringBuilder(HEAD + ";god g plain price 1 serves 9 from 0 to 24;holds g t a 0 to 1");
            for (int p = 0; p < 8; p++) {
                text.append(";prayer p" + (char) ('a' + p) + " t at 0,0 hour 0 starts g " + (7 - p) + " gift "
                        + (granted >> p & 1) + " need 0");
            }
            PrayerWay way = Checks.fresh(text.toString());
            int i = 0;
            for (int p = 0; p < 8; p++) {
                if ((granted >> p & 1) == 1) {
                    Checks.due("led " + i, p, way.led(i));
                    i++;
                }
            }
            Checks.noLed("one more", way, i);
            Checks.noLed("none below", way, -1);
        }
        PrayerWay none = Checks.fresh(HEAD + ";god g" + Texts.GOD);
        Checks.noLed("no prayers", none, 0);
        Checks.noLed("no land", new PrayerWay(), 0);
    }

    /** Each size at its greatest; "0 for what there isn't". */
    private static void sizes() {
        String eight = ";prayer p# ix at 0,0 hour 0 starts a 0 gift 0 need 0";
        PrayerWay way = Checks.fresh("land wide 6 high 4 law need" + ";row aaaaaa".repeat(4) + Texts.times(6, ";thing #x")
                + ";god a" + Texts.GOD + Texts.times(5, ";god #" + Texts.GOD) + Texts.times(8, eight)
                + Texts.times(4, ";village v# at 0,0 saint a") + ";spell adds 1".repeat(6) + ";saw ix a 0 no".repeat(8));
        int[] full = {6, 4, 2, 6, 6, 0, 8, 0, 4, 6, 8, 0, 0, 0, 0};
        for (int what = 0; what < full.length; what++) {
            Checks.due("size " + what, full[what], way.size(what));
        }
        PrayerWay other = Checks.fresh(HEAD + Texts.GODS + ";holds g t a 0 to 1".repeat(16)
                + Texts.times(8, ";prayer p#" + Texts.PRAYER) + ";clash pi pj;clash pi pk;clash pi pl;clash pi pm;clash pi pn"
                + ";clash pi po;clash pi pp;clash pk pj");
        Checks.due("sixteen", 16, other.size(5));
        Checks.due("eight clashes", 8, other.size(7));
        other.seed(65536);
        for (int i = 0; i < 13; i++) {
            other.price(0, i + 1);
        }
        other.mark();
        other.mark();
        other.mark();
        for (int i = 0; i < 60; i++) {
            other.feed(0, 0, 0, 0, 0);
        }
        Checks.due("the greatest seed", 65536, other.size(11));
        Checks.due("twelve acts", 12, other.size(12));
        Checks.due("three marks", 3, other.size(13));
        Checks.due("1,200 bytes", 1200, other.size(14));
    }

    public static void main(String[] args) {
        sleep();
        draws();
        ages();
        prices();
        sendings();
        saintsAndSeeds();
        undone();
        undoneBetween();
        seedsUndone();
        marks();
        markOfNothing();
        told();
        led();
        sizes();
        Checks.end("ActBoundsTest");
    }
}
