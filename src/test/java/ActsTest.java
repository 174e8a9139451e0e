/** Promises 41 to 49: sleep, age, price, send, changes, seed, undo, mark, back. */
public final class ActsTest {
    private static final String TEXT = "land wide 2 high 1 law first;row ab;thing t;thing u"
            + ";god g plain price 3 serves 1 from 0 to 24;god h asleep price 0 serves 1 from 0 to 24"
            + ";god i proud price 9 serves 1 from 0 to 24;sends g t h"
            + ";prayer p t at 0,0 hour 0 starts g 0 gift 3 need 0;holds g t a 0 to 1"
            + ";village v at 0,0 saint g;village w at 1,0 saint h";

    private static void sleep() {
        PrayerWay way = Checks.fresh(TEXT);
        Checks.no("no god", way, 1, way.sleep(3, true));
        Checks.no("no god below", way, 1, way.sleep(-1, false));
        Checks.no("g is awake", way, 5, way.sleep(0, false));
        Checks.yes("g is put to sleep", way, way.sleep(0, true));
        Checks.told("g is asleep", way, 1, way.god(0, 5));
        Checks.told("g is plain still", way, 0, way.god(0, 0));
        Checks.told("p is lost", way, 2, way.fate(0));
        Checks.no("g is put so already", way, 5, way.sleep(0, true));
        Checks.yes("g is woken", way, way.sleep(0, false));
        Checks.told("p is granted", way, 0, way.fate(0));
        Checks.no("h wasn't put to sleep", way, 5, way.sleep(1, false));
        Checks.yes("h is put to sleep", way, way.sleep(1, true));
        Checks.no("h is put so already", way, 5, way.sleep(1, true));
        Checks.yes("h is woken", way, way.sleep(1, false));
        Checks.told("h stays asleep by kind", way, 1, way.god(1, 5));
        Checks.due("four acts", 4, way.size(12));
    }

    private static void ages() {
        PrayerWay way = Checks.fresh(TEXT);
        // 74, 5624, 28562 (75 * 5624 + 74 = 421874, less 6 times 65537), by 3: 2, 2, 2.
        int seed = 0;
        int asleep = 0;
        for (int i = 0; i < 40; i++) {
            seed = (75 * seed + 74) % 65537;
            asleep ^= 1 << seed % 3;
            Checks.told("age " + i, way, seed % 3, way.age());
            Checks.due("seed " + i, seed, way.size(11));
            for (int god = 0; god < 3; god++) {
                Checks.told("asleep " + god, way, god == 1 ? 1 : asleep >> god & 1, way.god(god, 5));
            }
        }
        Checks.yes("seed", way, way.seed(65536));
        // 75 * 65536 + 74 is -1 mod 65537.
        Checks.told("age by the greatest seed", way, 65536 % 3, way.age());
        Checks.due("it stays", 65536, way.size(11));
        PrayerWay first = Checks.fresh(TEXT);
        Checks.told("the first draw", first, 2, first.age());
        Checks.due("74", 74, first.size(11));
        Checks.told("put to sleep", first, 1, first.god(2, 5));
        Checks.told("the second draw", first, 2, first.age());
        Checks.due("5624", 5624, first.size(11));
        Checks.told("woken", first, 0, first.god(2, 5));
        Checks.yes("undo", first, first.undo());
        Checks.due("the seed ahead of it", 74, first.size(11));
        Checks.told("asleep again", first, 1, first.god(2, 5));
    }

    private static void changes() {
        PrayerWay way = Checks.fresh(TEXT);
        Checks.no("price, no god", way, 1, way.price(3, 100));
        Checks.no("price 100", way, 2, way.price(0, 100));
        Checks.no("price -1", way, 2, way.price(0, -1));
        Checks.no("price 3", way, 5, way.price(0, 3));
        Checks.yes("price 0", way, way.price(0, 0));
        Checks.yes("price 99", way, way.price(0, 99));
        Checks.told("99 now", way, 99, way.god(0, 1));
        Checks.told("sent to h, who sleeps", way, 2, way.fate(0));
        Checks.told("with h", way, 1, way.whom(0));
        Checks.no("send, no god", way, 1, way.send(3, 0, 0));
        Checks.no("send, no thing", way, 1, way.send(0, 2, 1));
        Checks.no("send to nobody", way, 1, way.send(0, 0, 3));
        Checks.no("send to -1", way, 1, way.send(0, 0, -1));
        Checks.no("send to -3", way, 1, way.send(0, 0, -3));
        Checks.no("send to himself", way, 5, way.send(0, 0, 0));
        Checks.no("he sends so", way, 5, way.send(0, 0, 1));
        Checks.no("he sends none", way, 5, way.send(0, 1, Checks.NOTHING));
        Checks.yes("send to i", way, way.send(0, 0, 2));
        Checks.told("to i", way, 2, way.sends(0, 0));
        Checks.told("dead with i", way, 1, way.fate(0));
        Checks.yes("send to none", way, way.send(0, 0, Checks.NOTHING));
        Checks.told("to none", way, Checks.NOTHING, way.sends(0, 0));
        Checks.told("dead with g", way, 0, way.whom(0));
        Checks.no("changes, no village", way, 1, way.changes(2, 0));
        Checks.no("changes, no village below", way, 1, way.changes(-1, 0));
        Checks.no("changes, no god", way, 1, way.changes(0, 3));
        Checks.no("he is", way, 5, way.changes(0, 0));
        Checks.yes("changes", way, way.changes(0, 2));
        Checks.told("i now", way, 2, way.village(0, 1));
        Checks.no("seed -1", way, 2, way.seed(-1));
        Checks.no("seed 65537", way, 2, way.seed(65537));
        Checks.yes("seed 0, which it is", way, way.seed(0));
        Checks.due("five acts, seeds are none", 5, way.size(12));
        Checks.yes("undo", way, way.undo());
        Checks.told("g again", way, 0, way.village(0, 1));
        Checks.yes("undo", way, way.undo());
        Checks.told("to i again", way, 2, way.sends(0, 0));
        Checks.yes("undo", way, way.undo());
        Checks.told("to h again", way, 1, way.sends(0, 0));
        Checks.yes("undo", way, way.undo());
        Checks.told("0 again", way, 0, way.god(0, 1));
        Checks.yes("undo", way, way.undo());
        Checks.told("3 again", way, 3, way.god(0, 1));
        Checks.told("granted again", way, 0, way.fate(0));
        Checks.no("nothing more", way, 6, way.undo());
    }

    /** What was asked ahead of undoing, or of going back, is asked anew behind it. */
    private static void askedAnew() {
        PrayerWay way = Checks.fresh(TEXT);
        Checks.told("granted", way, 0, way.fate(0));
        way.mark();
        way.price(0, 4);
        Checks.told("with h, who sleeps", way, 2, way.fate(0));
        way.undo();
        Checks.told("granted behind undo", way, 0, way.fate(0));
        way.sleep(0, true);
        Checks.told("g sleeps", way, 2, way.fate(0));
        way.back(0);
        Checks.told("granted behind back", way, 0, way.fate(0));
        Checks.land(way, TEXT.replace("gift 3", "gift 2"));
        Checks.told("too small a gift behind land", way, 2, way.fate(0));
    }

    private static void undone() {
        PrayerWay way = Checks.fresh(TEXT);
        for (int v = 10; v < 25; v++) {
            Checks.yes("price " + v, way, way.price(0, v));
            Checks.due("kept", Math.min(12, v - 9), way.size(12));
        }
        for (int v = 23; v >= 12; v--) {
            Checks.yes("undo to " + v, way, way.undo());
            Checks.told("price " + v, way, v, way.god(0, 1));
        }
        Checks.no("only twelve", way, 6, way.undo());
        way.seed(5);
        Checks.yes("an act", way, way.price(0, 50));
        way.seed(9);
        Checks.no("refused, no act", way, 5, way.price(0, 50));
        Checks.yes("undo", way, way.undo());
        Checks.due("the seed as ahead of the act", 5, way.size(11));
        Checks.told("the price too", way, 12, way.god(0, 1));
    }

    private static void marks() {
        PrayerWay way = Checks.fresh(TEXT);
        Checks.no("no mark yet", way, 1, way.back(0));
        Checks.told("mark", way, 0, way.mark());
        way.price(0, 7);
        way.sleep(2, true);
        way.seed(11);
        Checks.told("mark", way, 1, way.mark());
        way.changes(0, 1);
        way.send(0, 0, 2);
        Checks.told("mark", way, 2, way.mark());
        Checks.refused("no room", way, 3, way.mark());
        Checks.due("three", 3, way.size(13));
        Checks.yes("undo leaves marks", way, way.undo());
        Checks.due("three still", 3, way.size(13));
        Checks.yes("back to the second", way, way.back(1));
        Checks.told("its price", way, 7, way.god(0, 1));
        Checks.told("its sleeper", way, 1, way.god(2, 5));
        Checks.due("its seed", 11, way.size(11));
        Checks.told("its saint", way, 0, way.village(0, 1));
        Checks.no("nothing to undo", way, 6, way.undo());
        Checks.due("nothing kept", 0, way.size(12));
        Checks.yes("on to the third", way, way.back(2));
        Checks.told("its saint", way, 1, way.village(0, 1));
        Checks.told("its sending", way, 2, way.sends(0, 0));
        Checks.yes("back to the first", way, way.back(0));
        Checks.told("its price", way, 3, way.god(0, 1));
        Checks.told("its sleeper", way, 0, way.god(2, 5));
        Checks.due("its seed", 0, way.size(11));
        Checks.told("its prayer", way, 0, way.fate(0));
        Checks.due("all marks stay", 3, way.size(13));
        Checks.no("no fourth", way, 1, way.back(3));
        Checks.no("none below", way, 1, way.back(-1));
        way.price(0, 8);
        Checks.yes("undo behind back", way, way.undo());
        Checks.told("its price again", way, 3, way.god(0, 1));
    }

    private static void none() {
        PrayerWay way = new PrayerWay();
        Checks.no("no land: sleep", way, 1, way.sleep(0, true));
        Checks.refused("no land: age", way, 1, way.age());
        Checks.no("no land: price", way, 1, way.price(0, 100));
        Checks.no("no land: send", way, 1, way.send(0, 0, 0));
        Checks.no("no land: changes", way, 1, way.changes(0, 0));
        Checks.no("no land: seed", way, 1, way.seed(-1));
        Checks.no("no land: undo", way, 6, way.undo());
        Checks.refused("no land: mark", way, 1, way.mark());
        Checks.no("no land: back", way, 1, way.back(0));
        Checks.due("no land: seed stays", 0, way.size(11));
    }

    public static void main(String[] args) {
        sleep();
        ages();
        changes();
        askedAnew();
        undone();
        marks();
        none();
        Checks.end("ActsTest");
    }
}
