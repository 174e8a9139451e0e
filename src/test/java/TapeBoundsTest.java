import java.util.NoSuchElementException;

/** Promises 1 to 5 at their bounds: a new object, the tape empty and full, which fault and place are told, and how long. */
public final class TapeBoundsTest {
    private static final int BLANKS = 0x20202020;
    private static final String ALL = Texts.ALL;

    private static int blank(PrayerWay way) {
        return way.feed(BLANKS, BLANKS, BLANKS, BLANKS, BLANKS);
    }

    /** "No LAND." */
    private static void newObject() {
        PrayerWay way = new PrayerWay();
        Checks.due("trouble of a new one", 0, way.trouble());
        Checks.due("fault of a new one", 0, way.fault());
        Checks.due("where of a new one", -1, way.where());
        for (int what = 0; what <= 14; what++) {
            Checks.due("size " + what + " of a new one", 0, way.size(what));
        }
        Checks.due("trouble still", 0, way.trouble());
        PrayerWay other = Checks.fresh(ALL);
        Checks.due("another's land isn't its own", 0, way.size(4));
        Checks.due("nor is its own another's", 2, other.size(4));
    }

    /** "Twenty bytes come behind THE TAPE, of each number the highest first: how many it has" */
    private static void order() {
        for (int k = 0; k < 20; k++) {
            int[] numbers = {BLANKS, BLANKS, BLANKS, BLANKS, BLANKS};
            int shift = 24 - 8 * (k % 4);
            for (int sign : new int[] {0, '#', 127, 128, 255}) {
                numbers[k / 4] = BLANKS & ~(255 << shift) | sign << shift;
                PrayerWay way = new PrayerWay();
                Checks.due("one feed", 20, way.feed(numbers[0], numbers[1], numbers[2], numbers[3], numbers[4]));
                Checks.refused("byte " + k, way, 4, way.land(20));
                Checks.due("byte " + k + " is at its place", k, way.where());
                blank(way);
                Checks.due("two feeds", 40, way.feed(numbers[0], numbers[1], numbers[2], numbers[3], numbers[4]));
                Checks.refused("byte " + (20 + k), way, 4, way.land(40));
                Checks.due("behind what was there", 20 + k, way.where());
            }
        }
    }

    /** "NONE, and none comes, if there would be more than 1,200" */
    private static void full() {
        PrayerWay way = new PrayerWay();
        Checks.feed(way, Texts.bytes(ALL));
        int fed = way.size(14);
        while (fed < 1200) {
            Checks.due("fed", fed + 20, blank(way));
            fed += 20;
            Checks.due("on the tape", fed, way.size(14));
        }
        for (int i = 0; i < 3; i++) {
            Checks.due("no room", -1, way.feed(0x23232323, 0x23232323, 0x23232323, 0x23232323, 0x23232323));
            Checks.due("none came", 1200, way.size(14));
        }
        Checks.told("what was there is there still", way, 2, way.land(1200));
        Checks.due("empty then", 0, way.size(14));
        Checks.due("room again", 20, blank(way));
    }

    /** A text may have all of the 1,200 bytes, and its fault may be at the last of them or at their end. */
    private static void longest() {
        String filled = ALL + " ".repeat(1200 - ALL.length());
        Texts.good(filled);
        Texts.faultAt(1, 1199, filled.substring(0, 1199) + "#");
        Texts.faultAt(1, 1200, filled.substring(0, 1199) + ";");
        Texts.faultAt(6, 1200, Texts.HEAD + " ".repeat(1200 - Texts.HEAD.length()));
        Texts.good(" ".repeat(1200 - ALL.length()) + ALL);
        String late = " ".repeat(1200 - ALL.length() - 7) + ALL;
        Texts.good(late + ";luck 7");
        Texts.faultAt(1, 1200, late + ";luck  ");
        String word = late.substring(1) + ";thing ";
        Texts.good(word + "y");
        Texts.faultAt(3, 1199, word + "t");
    }

    /** "The first n bytes of THE TAPE (it is empty then)": from none to all of them; "NONE: 2 (THE TAPE stays)" */
    private static void firstBytes() {
        String text = ALL + ";luck 12";
        // Behind 2 and 24 of each god's hours, and behind 1 and 12, the text may end.
        int one = text.indexOf(";god h");
        for (int n = 0; n <= text.length(); n++) {
            PrayerWay way = new PrayerWay();
            Checks.feed(way, Texts.bytes(text));
            boolean both = n == ALL.length() - 1 || n == ALL.length() || n >= text.length() - 1;
            boolean whole = both || n == one - 1 || n == one;
            Checks.due("land of " + n, whole ? both ? 2 : 1 : -1, way.land(n));
            Checks.due("trouble of " + n, whole ? 0 : 4, way.trouble());
            int place = way.where();
            Checks.due("where of " + n, 1, (whole ? place == -1 : place >= 0 && place <= n) ? 1 : 0);
            Checks.due("empty then", 0, way.size(14));
            if (whole) {
                int luck = n == text.length() ? 12 : n == text.length() - 1 ? 1 : 0;
                Checks.due("as far as it goes", luck, way.left());
            }
            Checks.refused("what was behind n is gone too", way, 2, way.land(1));
            Checks.due("no place of that", -1, way.where());
        }
        PrayerWay way = new PrayerWay();
        Checks.refused("0 of none is a text without a token", way, 4, way.land(0));
        Checks.due("its fault", 1, way.fault());
        Checks.due("its place", 0, way.where());
        Checks.refused("1 of none", way, 2, way.land(1));
        Checks.feed(way, Texts.bytes(ALL));
        int fed = way.size(14);
        for (int n : new int[] {fed + 1, fed + 20, -1, 1200, 1201, Integer.MAX_VALUE, Integer.MIN_VALUE}) {
            Checks.refused("land of " + n, way, 2, way.land(n));
            Checks.due("the tape stays", fed, way.size(14));
        }
        Checks.told("and what is on it", way, 2, way.land(fed));
        blank(way);
        Checks.refused("0 of twenty", way, 4, way.land(0));
        Checks.due("empty then", 0, way.size(14));
        Checks.due("the land stays", 2, way.size(4));
    }

    /** "(nobody put to sleep, SEED 0; nothing to undo, no MARKS): how many GODS"; "4 (the LAND stays)" */
    private static void anew() {
        for (int gods = 1; gods <= 6; gods++) {
            String text = Texts.HEAD + Texts.ROW + ";thing t" + Texts.times(gods, ";god #" + Texts.GOD)
                    + ";village v at 0,0 saint i";
            PrayerWay way = new PrayerWay();
            Checks.told("gods", way, gods, Checks.land(way, text));
            change(way, gods);
            Checks.refused("a fault", way, 4, Checks.land(way, text + ";"));
            changed(way, gods);
            Checks.refused("a number", way, 2, way.land(1));
            changed(way, gods);
            Checks.told("gods again", way, gods, Checks.land(way, text));
            Checks.told("nobody put to sleep", way, 0, way.god(gods - 1, 5));
            Checks.told("the price told", way, 0, way.god(0, 1));
            Checks.told("the saint told", way, 0, way.village(0, 1));
            Checks.told("the sending told", way, -2, way.sends(0, 0));
            Checks.due("SEED 0", 0, way.size(11));
            Checks.due("nothing to undo", 0, way.size(12));
            Checks.due("no MARKS", 0, way.size(13));
            Checks.no("nothing to undo", way, 6, way.undo());
            Checks.no("no MARKS", way, 1, way.back(0));
            Checks.told("the first MARK", way, 0, way.mark());
        }
    }

    /** Of the LANDS ahead of it a new one has nothing: full ones and bare ones in turn, on one object. */
    private static void nothingOfTheOld() {
        String full = Texts.PRAYERS + ";god i jealous price 9 serves 9 from 5 to 6;luck 50;holds g any any 0 to 24"
                + ";holds i any any 0 to 24;sends g t h;sends i u g;bars i g;bars g h;clash p q;village v at 0,0 saint h"
                + ";village w at 1,0 saint i;spell times 9;spell adds 9;spell adds 5;saw t a 0 yes";
        // Of like sizes, but with less told.
        String bare = Texts.PRAYERS.replace("hour 0", "hour 1") + ";village v at 1,0 saint g;spell adds 1";
        PrayerWay way = new PrayerWay();
        String first = Answers.now(Checks.fresh(full));
        String second = Answers.now(Checks.fresh(bare));
        String third = Answers.now(Checks.fresh(ALL));
        Checks.due("unlike", 0, first.equals(second) || second.equals(third) ? 1 : 0);
        String[] texts = {full, bare, ALL};
        String[] answers = {first, second, third};
        for (int i : new int[] {0, 0, 2, 2, 0, 1, 1, 1, 0, 2, 1, 2, 0, 0, 1, 2}) {
            Checks.due("land", i == 0 ? 3 : 2, Checks.land(way, texts[i]));
            Checks.due("nothing of the old in " + i, 1, Answers.now(way).equals(answers[i]) ? 1 : 0);
            change(way, 2);
            // A text that fails at its end has been read all the same: nothing of it stays either.
            Checks.refused("a fault", way, 4, Checks.land(way, full + ";"));
        }
    }

    private static void change(PrayerWay way, int gods) {
        Checks.told("mark", way, 0, way.mark());
        Checks.yes("sleep", way, way.sleep(gods - 1, true));
        Checks.yes("price", way, way.price(0, 99));
        if (gods > 1) {
            way.send(0, 0, gods - 1);
            way.changes(0, gods - 1);
        }
        Checks.yes("seed", way, way.seed(65536));
    }

    private static void changed(PrayerWay way, int gods) {
        Checks.told("asleep still", way, 1, way.god(gods - 1, 5));
        Checks.told("the price still", way, 99, way.god(0, 1));
        Checks.told("the saint still", way, gods - 1, way.village(0, 1));
        Checks.told("the sending still", way, gods > 1 ? gods - 1 : -2, way.sends(0, 0));
        Checks.due("SEED still", 65536, way.size(11));
        Checks.due("ACTS still", gods > 1 ? 4 : 2, way.size(12));
        Checks.due("MARKS still", 1, way.size(13));
    }

    /** "The FAULT of the latest land() not refused by 2; 0 without one." */
    private static void faults() {
        PrayerWay way = new PrayerWay();
        Checks.due("none yet", 0, way.fault());
        way.land(1);
        Checks.due("refused by 2: none yet", 0, way.fault());
        String[] texts = {"x", ALL + ";bars g x", ALL + ";bars g g", ALL + ";luck 100", ALL + ";row ab", "row ab",
            ALL + ";saw t f"};
        for (int fault = 1; fault <= 7; fault++) {
            Checks.land(way, texts[fault - 1]);
            Checks.due("fault", fault, way.fault());
            way.land(5);
            Checks.due("refused by 2: still", fault, way.fault());
            way.land(-1);
            way.points();
            way.soil(-1, -1);
            Checks.due("other calls leave it", fault, way.fault());
        }
        Checks.told("a good one", way, 2, Checks.land(way, ALL));
        Checks.due("without one", 0, way.fault());
        way.land(5);
        Checks.due("refused by 2: without one still", 0, way.fault());
    }

    private interface Call {
        void on(PrayerWay way);
    }

    /** "Its place, if the latest call that may be refused was by 4; NONE else." */
    private static void places() {
        Call[] counting = {w -> w.land(-1), w -> w.soil(0, 0), w -> w.soil(9, 9), w -> w.has(0, 0, 0, 0), w -> w.has(9, 0, 0, 0),
            w -> w.owners(0, 0, 0), w -> w.many(0), w -> w.points(), w -> w.nobodys(), w -> w.firstNobodys(),
            w -> w.disputed(), w -> w.shared(0, 1), w -> w.in(0, 0), w -> w.fate(0), w -> w.when(0), w -> w.whom(0),
            w -> w.waits(0), w -> w.altars(0), w -> w.altar(0, 0), w -> w.late(0), w -> w.law(0, 0), w -> w.queue(0, 0),
            w -> w.alone(0, 0), w -> w.start(0), w -> w.ring(0), w -> w.together(), w -> w.offended(), w -> w.keep(),
            w -> w.once(), w -> w.content(0), w -> w.saint(0), w -> w.rest(), w -> w.rests(), w -> w.left(), w -> w.ends(0),
            w -> w.fits(), w -> w.ask(), w -> w.askMost(), w -> w.sleep(0, true), w -> w.age(), w -> w.price(0, 9),
            w -> w.send(0, 0, 1), w -> w.changes(0, 0), w -> w.seed(0), w -> w.undo(), w -> w.mark(), w -> w.back(0),
            w -> w.god(0, 0), w -> w.sends(0, 0), w -> w.bars(0, 1), w -> w.prayer(0, 0), w -> w.village(0, 0)};
        Call[] leaving = {w -> blank(w), w -> w.fault(), w -> w.where(), w -> w.size(0), w -> w.size(99), w -> w.trouble(),
            TapeBoundsTest::led};
        Checks.due("all calls of the face, some twice", 56 + 2 + 1, counting.length + leaving.length);
        for (boolean stands : new boolean[] {false, true}) {
            for (Call call : counting) {
                PrayerWay way = faulty(stands);
                call.on(way);
                Checks.due("a call that may be refused: no place more", -1, way.where());
                Checks.due("and never 4", 0, way.trouble() == 4 ? 1 : 0);
                Checks.due("the fault stays", 4, way.fault());
            }
            for (Call call : leaving) {
                PrayerWay way = faulty(stands);
                call.on(way);
                Checks.due("a call without a number: the place stays", Texts.HEAD.length() + 6, way.where());
                Checks.due("and trouble", 4, way.trouble());
            }
        }
        PrayerWay full = faulty(true);
        for (int i = 0; i < 60; i++) {
            blank(full);
        }
        Checks.due("no room", -1, blank(full));
        Checks.due("feed without room leaves the place", Texts.HEAD.length() + 6, full.where());
        PrayerWay good = faulty(true);
        Checks.told("a good land", good, 2, Checks.land(good, ALL));
        Checks.due("no place more", -1, good.where());
    }

    private static PrayerWay faulty(boolean stands) {
        PrayerWay way = stands ? Checks.fresh(Texts.PRAYERS + ";village v at 0,0 saint g") : new PrayerWay();
        Checks.refused("a fault", way, 4, Checks.land(way, Texts.HEAD + ";luck 100"));
        Checks.due("its place", Texts.HEAD.length() + 6, way.where());
        return way;
    }

    private static void led(PrayerWay way) {
        try {
            way.led(99);
        } catch (NoSuchElementException e) {
            return;
        }
        Checks.due("led(99) throws", 1, 0);
    }

    /** "An object is used for at most 512 calls": up to the last of them all is as it was. */
    private static void manyCalls() {
        PrayerWay way = new PrayerWay();
        int calls = 0;
        for (int i = 0; i < 128; i++) {
            Checks.due("trouble of call " + calls, i == 0 ? 0 : 1, way.trouble());
            Checks.due("refused", -1, way.rests());
            Checks.due("feed", i < 60 ? 20 * i + 20 : -1, blank(way));
            Checks.due("its bytes", Math.min(1200, 20 * i + 20), way.size(14));
            calls += 4;
        }
        Checks.due("so many calls", 512, calls);
        PrayerWay other = Checks.fresh(ALL);
        for (int i = 0; i < 490; i++) {
            Checks.yes("an act", other, other.price(0, 1 + i % 2));
        }
        Checks.due("twelve are kept", 12, other.size(12));
    }

    public static void main(String[] args) {
        newObject();
        order();
        full();
        longest();
        firstBytes();
        anew();
        nothingOfTheOld();
        faults();
        places();
        manyCalls();
        Checks.end("TapeBoundsTest");
    }
}
