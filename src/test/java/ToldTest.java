/** Promises 50 to 57: god, sends, bars, prayer, village, led, size, trouble. */
public final class ToldTest {
    private static final String TEXT = "land wide 3 high 2 law gift;row abc;row cba;thing t;thing u;thing s"
            + ";god g plain price 3 serves 1 from 0 to 24;god h proud price 99 serves 9 from 22 to 23"
            + ";god i jealous price 0 serves 2 from 3 to 4;god j asleep price 1 serves 3 from 5 to 6"
            + ";holds g t any 0 to 24;holds i u a 0 to 1;sends g u h;sends j s i;bars h g;bars i h"
            + ";prayer p t at 2,1 hour 7 starts g 8 gift 3 need 10"
            + ";prayer q u at 0,0 hour 23 starts h 22 gift 98 need 99"
            + ";prayer r t at 1,0 hour 0 starts g 0 gift 99 need 0"
            + ";prayer z t at 1,0 hour 0 starts g 0 gift 2 need 0"
            + ";clash p q;clash r p;village v at 1,1 saint j;spell adds 2;spell adds 2;spell takes 1"
            + ";saw s e 4 no;luck 12";

    private static void rows(String call, int[] want, int[] got) {
        for (int i = 0; i < want.length; i++) {
            Checks.due(call + ", " + i, want[i], got[i]);
        }
    }

    private static int[] ofGod(PrayerWay way, int g) {
        int[] told = new int[6];
        for (int what = 0; what < 6; what++) {
            told[what] = way.god(g, what);
            Checks.due("god: trouble", 0, way.trouble());
        }
        return told;
    }

    private static int[] ofPrayer(PrayerWay way, int p) {
        int[] told = new int[7];
        for (int what = 0; what < 7; what++) {
            told[what] = way.prayer(p, what);
            Checks.due("prayer: trouble", 0, way.trouble());
        }
        return told;
    }

    private static void told() {
        PrayerWay way = Checks.fresh(TEXT);
        rows("god g", new int[] {0, 3, 1, 0, 24, 0}, ofGod(way, 0));
        rows("god h", new int[] {1, 99, 9, 22, 23, 0}, ofGod(way, 1));
        rows("god i", new int[] {2, 0, 2, 3, 4, 0}, ofGod(way, 2));
        rows("god j", new int[] {3, 1, 3, 5, 6, 1}, ofGod(way, 3));
        rows("prayer p", new int[] {0, 5, 7, 0, 8, 3, 10}, ofPrayer(way, 0));
        rows("prayer q", new int[] {1, 0, 23, 1, 22, 98, 99}, ofPrayer(way, 1));
        Checks.refused("god, what 6", way, 1, way.god(0, 6));
        Checks.refused("god, what -1", way, 1, way.god(0, -1));
        Checks.refused("god 4", way, 1, way.god(4, 0));
        Checks.refused("god -1", way, 1, way.god(-1, 0));
        Checks.told("g sends u to h", way, 1, way.sends(0, 1));
        Checks.told("j sends s to i", way, 2, way.sends(3, 2));
        Checks.told("g sends t to none", way, Checks.NOTHING, way.sends(0, 0));
        Checks.refused("sends, no god", way, 1, way.sends(4, 0));
        Checks.refused("sends, no thing", way, 1, way.sends(0, 3));
        Checks.refused("sends, no thing below", way, 1, way.sends(0, -1));
        Checks.told("h bars g", way, 1, way.bars(1, 0));
        Checks.told("g doesn't bar h", way, 0, way.bars(0, 1));
        Checks.told("i bars h", way, 1, way.bars(2, 1));
        Checks.refused("bars, like", way, 1, way.bars(1, 1));
        Checks.refused("bars, no god", way, 1, way.bars(1, 4));
        Checks.refused("bars, no god below", way, 1, way.bars(-1, 1));
        Checks.refused("prayer 4", way, 1, way.prayer(4, 0));
        Checks.refused("prayer -1", way, 1, way.prayer(-1, 0));
        Checks.refused("prayer, what 7", way, 1, way.prayer(0, 7));
        Checks.refused("prayer, what -1", way, 1, way.prayer(0, -1));
        Checks.told("v's cell", way, 4, way.village(0, 0));
        Checks.told("v's saint", way, 3, way.village(0, 1));
        Checks.refused("village 1", way, 1, way.village(1, 0));
        Checks.refused("village -1", way, 1, way.village(-1, 0));
        Checks.refused("village, what 2", way, 1, way.village(0, 2));
        Checks.refused("village, what -1", way, 1, way.village(0, -1));
    }

    private static void led() {
        PrayerWay way = Checks.fresh(TEXT);
        way.points();
        Checks.due("the first granted by number", 0, way.led(0));
        Checks.due("the second", 2, way.led(1));
        Checks.noLed("a third", way, 2);
        Checks.noLed("one below", way, -1);
        Checks.noLed("far beyond", way, Integer.MAX_VALUE);
        Checks.noLed("far below", way, Integer.MIN_VALUE);
        way.price(0, 4);
        Checks.due("p isn't granted any more", 2, way.led(0));
        Checks.noLed("no second", way, 1);
        way.has(9, 9, 9, 9);
        Checks.due("led leaves trouble", 2, way.led(0));
        Checks.due("led leaves trouble", 1, way.trouble());
        Checks.noLed("no land", new PrayerWay(), 0);
    }

    private static void sizes() {
        PrayerWay way = Checks.fresh(TEXT);
        int[] sizes = {3, 2, 1, 3, 4, 2, 4, 2, 1, 3, 1, 0, 0, 0, 0};
        for (int what = 0; what < sizes.length; what++) {
            Checks.due("size " + what, sizes[what], way.size(what));
        }
        way.has(9, 9, 9, 9);
        Checks.due("size 15", -1, way.size(15));
        Checks.due("size -1", -1, way.size(-1));
        Checks.due("size leaves trouble", 1, way.trouble());
        Checks.due("trouble leaves trouble", 1, way.trouble());
        way.seed(77);
        way.sleep(0, true);
        way.mark();
        way.feed(0, 0, 0, 0, 0);
        Checks.due("SEED", 77, way.size(11));
        Checks.due("ACTS", 1, way.size(12));
        Checks.due("MARKS", 1, way.size(13));
        Checks.due("THE TAPE", 20, way.size(14));
        way.feed(0, 0, 0, 0, 0);
        Checks.due("THE TAPE", 40, way.size(14));
        PrayerWay bare = Checks.fresh("land wide 2 high 1 law need;row ab;thing t"
                + ";god g plain price 0 serves 1 from 0 to 1");
        int[] few = {2, 1, 2, 1, 1, 0, 0, 0, 0, 0, 0, 0, 0, 0, 0};
        for (int what = 0; what < few.length; what++) {
            Checks.due("bare: size " + what, few[what], bare.size(what));
        }
    }

    private static void none() {
        PrayerWay way = new PrayerWay();
        Checks.refused("no land: god", way, 1, way.god(0, 0));
        Checks.refused("no land: sends", way, 1, way.sends(0, 0));
        Checks.refused("no land: bars", way, 1, way.bars(0, 1));
        Checks.refused("no land: prayer", way, 1, way.prayer(0, 0));
        Checks.refused("no land: village", way, 1, way.village(0, 0));
    }

    public static void main(String[] args) {
        told();
        led();
        sizes();
        none();
        Checks.end("ToldTest");
    }
}
