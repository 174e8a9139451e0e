import java.util.NoSuchElementException;

/**
 * Each call that may be refused: with which number, at the last that is taken and the first that isn't, on both sides;
 * that nothing else has changed; and what the numbers are where no LAND is. Terms IV, promises 1 to 57.
 */
public final class RefusedTest {
    /** Three gods, two things, three prayers, two villages; soils a, c and e. */
    private static final String TEXT = "land wide 3 high 2 law gift;row ace;row eca;thing t;thing u;luck 9"
            + ";god g plain price 3 serves 1 from 0 to 24;god h asleep price 0 serves 1 from 0 to 24"
            + ";god i proud price 9 serves 2 from 5 to 20;holds g t a 0 to 12;holds i any any 6 to 23;holds h u e 3 to 4"
            + ";sends g t h;sends g u i;sends i u g;bars h g"
            + ";prayer p t at 0,0 hour 0 starts g 0 gift 3 need 0;prayer q u at 2,1 hour 7 starts g 5 gift 9 need 1"
            + ";prayer r u at 1,1 hour 3 starts g 5 gift 1 need 8;clash p q"
            + ";village v at 0,0 saint g;village w at 1,0 saint h;spell adds 3;spell shares 2;saw t a 23 no";
    private static final String FEW = "land wide 2 high 1 law need;row ab;thing t;god g" + Texts.GOD;

    /** A call; of one that answers a boolean 0 or 1. */
    private interface Call {
        int of(PrayerWay way);
    }

    private static int bit(boolean is) {
        return is ? 1 : 0;
    }

    /** A land with acts, marks, a seed, a fault that was, and something on the tape. */
    private static PrayerWay busy() {
        PrayerWay way = Checks.fresh(TEXT);
        way.price(0, 2);
        way.mark();
        way.sleep(2, true);
        way.seed(12);
        way.send(0, 0, 2);
        way.mark();
        way.age();
        way.changes(1, 0);
        Checks.land(way, FEW + ";#");
        Checks.feed(way, Texts.bytes(FEW + " "));
        way.points();
        return way;
    }

    private static final String BUSY_NOW = Answers.now(busy());
    private static final String BUSY_PAST = Answers.past(busy());
    private static final String NEW_NOW = Answers.now(new PrayerWay());
    private static final String NEW_PAST = Answers.past(new PrayerWay());

    private static void like(String call, String want, String got) {
        if (!want.equals(got)) {
            String[] wanted = want.split("\n");
            String[] had = got.split("\n");
            for (int i = 0; i < wanted.length && i < had.length; i++) {
                if (!wanted[i].equals(had[i])) {
                    System.out.println(call + " changed " + wanted[i] + " to " + had[i]);
                }
            }
        }
        Checks.due(call + " changes nothing", 1, bit(want.equals(got)));
    }

    private static void check(String call, PrayerWay way, int number, int answer, Call asked) {
        Checks.due(call, answer, asked.of(way));
        Checks.due(call + ": where", -1, way.where());
        Checks.due(call + ": trouble", number, way.trouble());
    }

    /** Refused with a number on a busy object, which stays as it is. */
    private static void no(String call, int number, int answer, Call asked) {
        PrayerWay way = busy();
        check(call, way, number, answer, asked);
        like(call, BUSY_NOW, Answers.now(way));
        like(call, BUSY_PAST, Answers.past(way));
        Checks.due(call + " leaves trouble of its own to others", 0, cleared(asked));
    }

    private static int cleared(Call asked) {
        PrayerWay way = busy();
        asked.of(way);
        way.points();
        return way.trouble();
    }

    private static void none(String call, int number, Call asked) {
        no(call, number, -1, asked);
    }

    private static void not(String call, int number, Call asked) {
        no(call, number, 0, asked);
    }

    /** Taken, though the call ahead of it was refused. */
    private static void yes(String call, Call asked) {
        PrayerWay way = busy();
        way.soil(-1, 0);
        int answer = asked.of(way);
        Checks.due(call + ": trouble", 0, way.trouble());
        Checks.due(call + ": answered " + answer, 1, bit(answer != -1));
    }

    /** Refused where no LAND is, with nothing changed. */
    private static void unsaid(String call, int number, int answer, Call asked) {
        PrayerWay way = new PrayerWay();
        check(call + " of no land", way, number, answer, asked);
        like(call + " of no land", NEW_NOW, Answers.now(way));
        like(call + " of no land", NEW_PAST, Answers.past(way));
    }

    /** A number from 0 up to last: taken at both ends, refused beyond them, near and far. */
    private static void ends(String call, int number, int last, Numbered asked) {
        yes(call + " 0", way -> asked.of(way, 0));
        yes(call + " " + last, way -> asked.of(way, last));
        for (int n : new int[] {-1, last + 1, -2, -3, last + 2, last + 32, last + 256, last + 65536, 1 << 30,
            Integer.MIN_VALUE, Integer.MAX_VALUE}) {
            if (!asked.isTakenToo(n)) {
                none(call + " " + n, number, way -> asked.of(way, n));
            }
        }
    }

    private interface Numbered {
        int of(PrayerWay way, int n);

        /** -2 means none any more, for send alone. */
        default boolean isTakenToo(int n) {
            return false;
        }
    }

    /** Of an act: true is 2, false is -1, so that it can be asked like the others. */
    private static int act(boolean is) {
        return is ? 2 : -1;
    }

    // ---- promises 2 to 5

    private static void land() {
        int fed = (FEW.length() + 1 + 19) / 20 * 20;
        none("land beyond the tape", 2, way -> way.land(fed + 1));
        none("land far beyond", 2, way -> way.land(Integer.MAX_VALUE));
        none("land below", 2, way -> way.land(-1));
        none("land far below", 2, way -> way.land(Integer.MIN_VALUE));
        yes("land of all of the tape", way -> way.land(fed));
        unsaid("land(1)", 2, -1, way -> way.land(1));
        unsaid("land(-1)", 2, -1, way -> way.land(-1));
        PrayerWay way = busy();
        Checks.refused("land of a part", way, 4, way.land(FEW.length() - 1 - Texts.GOD.length()));
        Checks.due("where", FEW.length() - 1 - Texts.GOD.length(), way.where());
        Checks.due("the tape is empty then", 0, way.size(14));
        Checks.due("the fault", 1, way.fault());
        Checks.refused("the tape is empty then", way, 2, way.land(1));
        String now = Answers.now(way);
        like("a faulty land", BUSY_NOW.replace("size 14 " + fed, "size 14 0"), now);
    }

    private static void feedLeavesTrouble() {
        PrayerWay way = Checks.fresh(TEXT);
        for (int i = 0; i < 60; i++) {
            way.feed(0x20202020, 0x20202020, 0x20202020, 0x20202020, 0x20202020);
        }
        way.soil(-1, 0);
        String now = Answers.now(way);
        way.soil(-1, 0);
        Checks.due("feed beyond 1,200", -1, way.feed(0x61616161, 0x61616161, 0x61616161, 0x61616161, 0x61616161));
        Checks.due("feed has no number", 1, way.trouble());
        like("feed beyond 1,200", now, Answers.now(way));
        Checks.refused("only blanks were on the tape", way, 4, way.land(1200));
        Checks.due("none came", 1200, way.where());
    }

    // ---- promises 6 to 15

    private static void points() {
        ends("soil x", 1, 2, (way, n) -> way.soil(n, 1));
        ends("soil y", 1, 1, (way, n) -> way.soil(2, n));
        ends("has god", 1, 2, (way, n) -> way.has(n, 1, 4, 23));
        ends("has thing", 1, 1, (way, n) -> way.has(2, n, 4, 23));
        ends("has soil", 1, 4, (way, n) -> way.has(2, 1, n, 23));
        ends("has hour", 2, 23, (way, n) -> way.has(2, 1, 4, n));
        ends("owners thing", 1, 1, (way, n) -> way.owners(n, 4, 23));
        ends("owners soil", 1, 4, (way, n) -> way.owners(1, n, 23));
        ends("owners hour", 2, 23, (way, n) -> way.owners(1, 4, n));
        ends("many", 1, 2, (way, n) -> way.many(n));
        ends("shared god", 1, 2, (way, n) -> way.shared(n, 1));
        ends("shared other", 1, 2, (way, n) -> way.shared(1, n));
        for (int god = 0; god < 3; god++) {
            int like = god;
            none("shared, like", 1, way -> way.shared(like, like));
            none("bars, like", 1, way -> way.bars(like, like));
        }
        ends("in god", 1, 2, (way, n) -> way.in(n, 23));
        ends("in hour", 2, 23, (way, n) -> way.in(2, n));
        none("has: 1 ahead of 2", 1, way -> way.has(3, 0, 0, 24));
        none("has: 1 ahead of 2", 1, way -> way.has(0, 2, 0, 24));
        none("has: 1 ahead of 2", 1, way -> way.has(0, 0, 5, 24));
        none("owners: 1 ahead of 2", 1, way -> way.owners(2, 0, 24));
        none("owners: 1 ahead of 2", 1, way -> way.owners(0, 5, -1));
        none("in: 1 ahead of 2", 1, way -> way.in(3, 24));
        yes("points", way -> way.points());
        yes("nobodys", way -> way.nobodys());
        yes("firstNobodys", way -> way.firstNobodys());
        yes("disputed", way -> way.disputed());
        unsaid("soil", 1, -1, way -> way.soil(0, 0));
        unsaid("has", 1, -1, way -> way.has(0, 0, 0, 0));
        unsaid("has", 1, -1, way -> way.has(0, 0, 0, 24));
        unsaid("owners", 1, -1, way -> way.owners(0, 0, 0));
        unsaid("owners", 1, -1, way -> way.owners(0, 0, 24));
        unsaid("many", 1, -1, way -> way.many(0));
        unsaid("points", 1, -1, way -> way.points());
        unsaid("nobodys", 1, -1, way -> way.nobodys());
        unsaid("firstNobodys", 1, -1, way -> way.firstNobodys());
        unsaid("disputed", 1, -1, way -> way.disputed());
        unsaid("shared", 1, -1, way -> way.shared(0, 1));
        unsaid("in", 1, -1, way -> way.in(0, 0));
        unsaid("in", 1, -1, way -> way.in(0, 24));
    }

    // ---- promises 16 to 27

    private static void prayers() {
        ends("fate", 1, 2, (way, n) -> way.fate(n));
        ends("when", 1, 2, (way, n) -> way.when(n));
        ends("whom", 1, 2, (way, n) -> way.whom(n));
        ends("waits", 1, 2, (way, n) -> way.waits(n));
        ends("altars", 1, 2, (way, n) -> way.altars(n));
        ends("altar prayer", 1, 2, (way, n) -> way.altar(n, 0));
        int altars = busy().altars(1);
        Checks.due("more than one altar", 1, bit(altars > 1));
        ends("altar i", 1, altars - 1, (way, n) -> way.altar(1, n));
        ends("late", 1, 2, (way, n) -> way.late(n));
        ends("law law", 1, 2, (way, n) -> way.law(n, 3));
        ends("law what", 1, 3, (way, n) -> way.law(2, n));
        ends("queue god", 1, 2, (way, n) -> way.queue(n, 95));
        ends("queue hour", 2, 95, (way, n) -> way.queue(2, n));
        none("queue: 1 ahead of 2", 1, way -> way.queue(3, 96));
        ends("alone prayer", 1, 2, (way, n) -> way.alone(n, 2));
        ends("alone god", 1, 2, (way, n) -> way.alone(2, n));
        ends("start", 1, 2, (way, n) -> way.start(n));
        ends("ring", 1, 2, (way, n) -> way.ring(n));
        unsaid("fate", 1, -1, way -> way.fate(0));
        unsaid("when", 1, -1, way -> way.when(0));
        unsaid("whom", 1, -1, way -> way.whom(0));
        unsaid("waits", 1, -1, way -> way.waits(0));
        unsaid("altars", 1, -1, way -> way.altars(0));
        unsaid("altar", 1, -1, way -> way.altar(0, 0));
        unsaid("late", 1, -1, way -> way.late(0));
        unsaid("law", 1, -1, way -> way.law(0, 0));
        unsaid("queue", 1, -1, way -> way.queue(0, 0));
        unsaid("queue", 1, -1, way -> way.queue(0, 96));
        unsaid("alone", 1, -1, way -> way.alone(0, 0));
        unsaid("start", 1, -1, way -> way.start(0));
        unsaid("ring", 1, -1, way -> way.ring(0));
    }

    // ---- promises 28 to 40

    private static void choices() {
        yes("together", way -> way.together());
        yes("offended", way -> way.offended());
        yes("keep", way -> way.keep());
        yes("once", way -> way.once());
        ends("content", 1, 1, (way, n) -> way.content(n));
        ends("saint", 1, 1, (way, n) -> way.saint(n));
        yes("rest", way -> way.rest());
        yes("rests", way -> way.rests());
        yes("left", way -> way.left());
        ends("ends", 1, 2, (way, n) -> way.ends(n));
        yes("fits", way -> way.fits());
        yes("ask", way -> way.ask());
        yes("askMost", way -> way.askMost());
        unsaid("together", 1, -1, way -> way.together());
        unsaid("offended", 1, -1, way -> way.offended());
        unsaid("keep", 1, -1, way -> way.keep());
        unsaid("once", 1, -1, way -> way.once());
        unsaid("content", 1, -1, way -> way.content(0));
        unsaid("saint", 1, -1, way -> way.saint(0));
        unsaid("rest", 1, -1, way -> way.rest());
        unsaid("rests", 1, -1, way -> way.rests());
        unsaid("left", 1, -1, way -> way.left());
        unsaid("ends", 1, -1, way -> way.ends(0));
        unsaid("ends", 1, -1, way -> way.ends(3));
        unsaid("fits", 1, -1, way -> way.fits());
        unsaid("ask: 1, not 6", 1, -1, way -> way.ask());
        unsaid("askMost: 1, not 6", 1, -1, way -> way.askMost());
    }

    // ---- promises 41 to 49

    private static void acts() {
        // The prices are 2, 0, 9; i sleeps or not by the draw.
        boolean slept = busy().god(2, 5) == 1;
        not("sleep, it is so already", 5, way -> bit(way.sleep(2, slept)));
        not("sleep, awake already", 5, way -> bit(way.sleep(1, false)));
        ends("sleep god", 1, 2, (way, n) -> act(way.sleep(n, way.god(n, 0) == 3 || way.god(n, 5) == 0)));
        ends("sleep god, woken", 1, 2, (way, n) -> {
            if (n >= 0 && n <= 2) {
                way.sleep(n, true);
            }
            return act(way.sleep(n, false));
        });
        ends("price god", 1, 2, (way, n) -> act(way.price(n, 55)));
        ends("price v", 2, 99, (way, n) -> act(way.price(2, n)));
        not("price, it is that", 5, way -> bit(way.price(0, 2)));
        not("price, it is 0", 5, way -> bit(way.price(1, 0)));
        not("price: 1 ahead of 2", 1, way -> bit(way.price(3, 100)));
        ends("send god", 1, 2, (way, n) -> act(way.send(n, 1, way.sends(n, 1) == -2 ? 2 - n : -2)));
        ends("send thing", 1, 1, (way, n) -> act(way.send(1, n, 0)));
        ends("send other", 1, 2, new Numbered() {
            @Override
            public int of(PrayerWay way, int n) {
                return act(way.send(1, 1, n));
            }

            @Override
            public boolean isTakenToo(int n) {
                return n == -2;
            }
        });
        for (int god = 0; god < 3; god++) {
            int like = god;
            not("send, himself", 5, way -> bit(way.send(like, 0, like)));
        }
        not("send, it is so already", 5, way -> bit(way.send(0, 0, 2)));
        not("send, none already", 5, way -> bit(way.send(1, 0, -2)));
        not("send: 1 ahead of 5", 1, way -> bit(way.send(3, 0, 3)));
        not("send: 1 ahead of 5", 1, way -> bit(way.send(0, 2, 0)));
        ends("changes village", 1, 1, (way, n) -> act(way.changes(n, 2)));
        ends("changes god", 1, 2, (way, n) -> {
            if (n == 0) {
                way.changes(1, 1);
            }
            return act(way.changes(1, n));
        });
        not("changes, he is", 5, way -> bit(way.changes(1, 0)));
        not("changes: 1 ahead of 5", 1, way -> bit(way.changes(2, 0)));
        ends("seed", 2, 65536, (way, n) -> act(way.seed(n)));
        ends("back", 1, 1, (way, n) -> act(way.back(n)));
        PrayerWay full = busy();
        Checks.told("a third mark", full, 2, full.mark());
        String now = Answers.now(full);
        Checks.refused("a fourth mark", full, 3, full.mark());
        like("a fourth mark", now, Answers.now(full));
        unsaid("sleep", 1, 0, way -> bit(way.sleep(0, true)));
        unsaid("sleep", 1, 0, way -> bit(way.sleep(0, false)));
        unsaid("age", 1, -1, way -> way.age());
        unsaid("price", 1, 0, way -> bit(way.price(0, 5)));
        unsaid("price", 1, 0, way -> bit(way.price(0, 100)));
        unsaid("send", 1, 0, way -> bit(way.send(0, 0, 1)));
        unsaid("send", 1, 0, way -> bit(way.send(0, 0, -2)));
        unsaid("changes", 1, 0, way -> bit(way.changes(0, 0)));
        unsaid("seed", 1, 0, way -> bit(way.seed(5)));
        unsaid("seed", 1, 0, way -> bit(way.seed(65537)));
        unsaid("undo", 6, 0, way -> bit(way.undo()));
        unsaid("mark", 1, -1, way -> way.mark());
        unsaid("back", 1, 0, way -> bit(way.back(0)));
    }

    // ---- promises 50 to 57

    private static void told() {
        ends("god g", 1, 2, (way, n) -> way.god(n, 5));
        ends("god what", 1, 5, (way, n) -> way.god(2, n));
        ends("sends god", 1, 2, (way, n) -> way.sends(n, 1));
        ends("sends thing", 1, 1, (way, n) -> way.sends(2, n));
        ends("bars god", 1, 2, (way, n) -> way.bars(n, 1));
        ends("bars other", 1, 2, (way, n) -> way.bars(1, n));
        ends("prayer p", 1, 2, (way, n) -> way.prayer(n, 6));
        ends("prayer what", 1, 6, (way, n) -> way.prayer(2, n));
        ends("village v", 1, 1, (way, n) -> way.village(n, 1));
        ends("village what", 1, 1, (way, n) -> way.village(1, n));
        unsaid("god", 1, -1, way -> way.god(0, 0));
        unsaid("sends", 1, -1, way -> way.sends(0, 0));
        unsaid("bars", 1, -1, way -> way.bars(0, 1));
        unsaid("prayer", 1, -1, way -> way.prayer(0, 0));
        unsaid("village", 1, -1, way -> way.village(0, 0));
    }

    private static int led(PrayerWay way, int i) {
        try {
            return way.led(i);
        } catch (NoSuchElementException e) {
            return -9;
        }
    }

    /** "NoSuchElementException if there is none such": it has no number, and changes nothing. */
    private static void led() {
        PrayerWay way = busy();
        int granted = way.law(1, 0);
        Checks.due("some are granted", 1, bit(granted > 0));
        for (int i : new int[] {-1, granted, granted + 1, 8, -2, Integer.MIN_VALUE, Integer.MAX_VALUE}) {
            PrayerWay other = busy();
            other.in(0, 24);
            Checks.due("led " + i + " throws", -9, led(other, i));
            Checks.due("led " + i + " has no number", 2, other.trouble());
            like("led " + i, BUSY_NOW, Answers.now(other));
            like("led " + i, BUSY_PAST, Answers.past(other));
        }
        for (int i = 0; i < granted; i++) {
            Checks.due("led " + i + " doesn't", 1, bit(led(way, i) >= 0));
        }
        PrayerWay unsaid = new PrayerWay();
        Checks.due("led of no land throws", -9, led(unsaid, 0));
        Checks.due("led of no land", 0, unsaid.trouble());
        like("led of no land", NEW_NOW, Answers.now(unsaid));
    }

    /** "NONE for others": size has no number told, and leaves TROUBLE as it is. */
    private static void sizes() {
        for (int what : new int[] {-1, 15, -2, 16, Integer.MIN_VALUE, Integer.MAX_VALUE}) {
            PrayerWay way = busy();
            way.in(0, 24);
            Checks.due("size " + what, -1, way.size(what));
            Checks.due("size " + what + " has no number", 2, way.trouble());
            like("size " + what, BUSY_NOW, Answers.now(way));
        }
        PrayerWay way = new PrayerWay();
        for (int what = 0; what <= 14; what++) {
            Checks.due("0 for what there isn't: " + what, 0, way.size(what));
        }
        Checks.due("size of no land", -1, way.size(15));
        Checks.due("size of no land has no number", 0, way.trouble());
    }

    public static void main(String[] args) {
        land();
        feedLeavesTrouble();
        points();
        prayers();
        choices();
        acts();
        told();
        led();
        sizes();
        Checks.end("RefusedTest");
    }
}
