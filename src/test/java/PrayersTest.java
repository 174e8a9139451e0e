/** Promises 16 to 27: fate, when, whom, waits, altars, altar, late, law, queue, alone, start, ring. */
public final class PrayersTest {
    private static final String HEAD = ";row ab;thing t;thing u";

    private static String god(String name, String kind, int price, int serves, String hours) {
        return ";god " + name + " " + kind + " price " + price + " serves " + serves + " " + hours;
    }

    private static String prayer(String name, String what, String starts, int gift, int need) {
        return ";prayer " + name + " " + what + " starts " + starts + " gift " + gift + " need " + need;
    }

    private static void way(PrayerWay way, int p, int fate, int when, int whom, int waits) {
        Checks.told("fate " + p, way, fate, way.fate(p));
        Checks.told("when " + p, way, when, way.when(p));
        Checks.told("whom " + p, way, whom, way.whom(p));
        Checks.told("waits " + p, way, waits, way.waits(p));
    }

    private static void path(PrayerWay way, int p, int... gods) {
        Checks.told("altars " + p, way, gods.length, way.altars(p));
        for (int i = 0; i < gods.length; i++) {
            Checks.told("altar " + p + ", " + i, way, gods[i], way.altar(p, i));
        }
        Checks.refused("altar " + p + " beyond", way, 1, way.altar(p, gods.length));
        Checks.refused("altar " + p + " below", way, 1, way.altar(p, -1));
    }

    /** One god who serves one an hour from 5 on: three laws, three orders. */
    private static String queueing(String law) {
        return "land wide 2 high 1 law " + law + HEAD + god("g", "plain", 0, 1, "from 5 to 9") + ";holds g t a 0 to 24"
                + prayer("i", "t at 0,0 hour 6", "g 4", 1, 7)
                + prayer("j", "t at 0,0 hour 6", "g 3", 9, 7)
                + prayer("k", "t at 0,0 hour 6", "g 3", 9, 8)
                + prayer("l", "t at 0,0 hour 6", "g 5", 50, 1)
                + prayer("m", "t at 0,0 hour 8", "g 9", 50, 50);
    }

    private static void order(String law, int[] when, int number, int late) {
        PrayerWay way = Checks.fresh(queueing(law));
        int[] came = {4, 3, 3, 5, 9};
        int waits = 0;
        for (int p = 0; p < 5; p++) {
            way(way, p, 0, when[p], 0, when[p] - came[p]);
            Checks.told(law + ": late " + p, way, when[p] > (p == 4 ? 8 : 6) ? 1 : 0, way.late(p));
            waits += when[p] - came[p];
        }
        for (int other = 0; other < 3; other++) {
            Checks.told("granted by " + other, way, 5, way.law(other, 0));
            Checks.told("dead by " + other, way, 0, way.law(other, 3));
        }
        Checks.told(law + ": LATE ones", way, late, way.law(number, 1));
        Checks.told(law + ": waits", way, waits, way.law(number, 2));
        Checks.told(law + " is the land's", way, number, way.size(2));
        path(way, 0, 0);
    }

    private static void laws() {
        // 3: j, k; 4: i; 5: l; m comes at 9, when g is out, and waits for 29.
        order("first", new int[] {7, 5, 6, 8, 29}, 0, 3);
        order("gift", new int[] {8, 6, 7, 5, 29}, 1, 3);
        order("need", new int[] {7, 6, 5, 8, 29}, 2, 3);
        PrayerWay way = Checks.fresh(queueing("first"));
        int[] behind = {0, 0, 0, 2, 3, 3, 2, 1, 0, 1};
        for (int hour = 0; hour < behind.length; hour++) {
            Checks.told("queue behind " + hour, way, behind[hour], way.queue(0, hour));
        }
        Checks.told("queue behind 28", way, 1, way.queue(0, 28));
        Checks.told("queue behind 29", way, 0, way.queue(0, 29));
        Checks.told("queue behind 95", way, 0, way.queue(0, 95));
        Checks.refused("queue, no god", way, 1, way.queue(1, 96));
        Checks.refused("queue behind 96", way, 2, way.queue(0, 96));
        Checks.refused("queue behind -1", way, 2, way.queue(0, -1));
        Checks.refused("law 3", way, 1, way.law(3, 0));
        Checks.refused("law -1", way, 1, way.law(-1, 0));
        Checks.refused("law, what 4", way, 1, way.law(0, 4));
        Checks.refused("law, what -1", way, 1, way.law(0, -1));
    }

    /** Like gifts: who came soonest, even behind a sending; then the least number. */
    private static void ties() {
        PrayerWay way = Checks.fresh("land wide 2 high 1 law gift" + HEAD
                + god("g", "plain", 0, 9, "from 0 to 24") + god("h", "plain", 0, 1, "from 3 to 24")
                + ";holds h any any 0 to 24;sends g t h"
                + prayer("i", "t at 0,0 hour 0", "h 3", 5, 0)
                + prayer("j", "t at 0,0 hour 0", "g 2", 5, 0)
                + prayer("k", "t at 0,0 hour 0", "g 1", 5, 0)
                + prayer("l", "t at 0,0 hour 0", "h 3", 5, 0));
        // k comes to h at 2; i, j and l at 3.
        way(way, 2, 0, 3, 1, 1);
        way(way, 0, 0, 4, 1, 1);
        way(way, 1, 0, 5, 1, 2);
        way(way, 3, 0, 6, 1, 3);
        path(way, 2, 0, 1);
        path(way, 0, 1);
        Checks.told("h's queue behind 1: k comes only in the next hour", way, 0, way.queue(1, 1));
        Checks.told("h's queue behind 2", way, 1, way.queue(1, 2));
        Checks.told("h's queue behind 3", way, 3, way.queue(1, 3));
        Checks.told("g's queue behind 1", way, 0, way.queue(0, 1));
    }

    /** A god behind another in number does not serve in the same hour what that one sends. */
    private static void sendings() {
        PrayerWay way = Checks.fresh("land wide 2 high 1 law first" + HEAD
                + god("g", "plain", 5, 1, "from 0 to 24") + god("h", "plain", 5, 1, "from 0 to 24")
                + god("i", "asleep", 0, 1, "from 0 to 24")
                + ";holds g t a 3 to 4;holds h t a 7 to 8;sends g t h;sends h u i;bars h i;sends g u i"
                + prayer("k", "t at 0,0 hour 7", "g 0", 5, 0)
                + prayer("l", "t at 0,0 hour 7", "g 0", 4, 0)
                + prayer("m", "u at 0,0 hour 7", "h 0", 9, 0)
                + prayer("n", "u at 1,0 hour 7", "g 5", 9, 0)
                + prayer("o", "t at 0,0 hour 3", "g 6", 9, 0)
                + prayer("p", "t at 1,0 hour 3", "g 8", 9, 0));
        way(way, 0, 0, 1, 1, 0);
        path(way, 0, 0, 1);
        // l is served by g at 1, comes to h at 2, where its gift is too small and t isn't sent.
        way(way, 1, 1, 2, 1, 1);
        path(way, 1, 0, 1);
        way(way, 2, 1, 0, 1, 0);
        path(way, 2, 1);
        // n comes to i at 6 and stays there.
        way(way, 3, 2, Checks.NOTHING, 2, 90);
        path(way, 3, 0, 2);
        way(way, 4, 0, 6, 0, 0);
        Checks.told("o is late", way, 1, way.late(4));
        Checks.told("k isn't", way, 0, way.late(0));
        Checks.told("a dead one isn't", way, 0, way.late(1));
        way(way, 5, 1, 9, 1, 0);
        Checks.told("granted", way, 2, way.law(0, 0));
        Checks.told("late", way, 1, way.law(0, 1));
        Checks.told("waits", way, 91, way.law(0, 2));
        Checks.told("dead", way, 3, way.law(0, 3));
        Checks.told("i's queue at the end", way, 1, way.queue(2, 95));
        Checks.told("no ring, for h bars i", way, Checks.NOTHING, way.ring(2));
    }

    private static void tempers() {
        String gods = god("g", "plain", 99, 9, "from 0 to 24") + god("h", "proud", 0, 9, "from 0 to 24")
                + god("i", "jealous", 0, 9, "from 0 to 24") + god("j", "jealous", 0, 9, "from 0 to 24");
        PrayerWay way = Checks.fresh("land wide 2 high 1 law first" + HEAD + gods
                + ";holds h t a 0 to 24;holds i t a 0 to 24;holds j any a 0 to 24"
                + ";sends g t h;sends h t i;sends i t j;sends h u j;bars i h;bars g j;sends g u j"
                + prayer("p", "t at 0,0 hour 0", "g 0", 0, 0)
                + prayer("q", "t at 0,0 hour 0", "h 0", 0, 0)
                + prayer("r", "u at 0,0 hour 0", "g 0", 0, 0)
                + prayer("s", "u at 0,0 hour 9", "h 0", 0, 0));
        // h is proud: p was with g; i bars h; j bars none.
        way(way, 0, 0, 3, 3, 0);
        path(way, 0, 0, 1, 2, 3);
        way(way, 1, 0, 0, 1, 0);
        way(way, 2, 1, 0, 0, 0);
        way(way, 3, 0, 1, 3, 0);
        Checks.told("p alone with g", way, 3, way.alone(0, 0));
        Checks.told("p alone with h", way, 0, way.alone(0, 1));
        Checks.told("p alone with i", way, 0, way.alone(0, 2));
        Checks.told("p alone with j", way, 0, way.alone(0, 3));
        Checks.told("p had better begin with h, the first", way, 1, way.start(0));
        Checks.told("r alone with g", way, Checks.NOTHING, way.alone(2, 0));
        Checks.told("r alone with h", way, 1, way.alone(2, 1));
        Checks.told("r alone with i", way, Checks.NOTHING, way.alone(2, 2));
        Checks.told("r had better begin with j", way, 3, way.start(2));
        Checks.refused("alone, no god", way, 1, way.alone(0, 4));
        Checks.refused("alone, no prayer", way, 1, way.alone(4, 0));
        Checks.told("alone leaves the days as they are", way, 3, way.when(0));
        way.sleep(3, true);
        Checks.told("from none", way, Checks.NOTHING, way.start(2));
    }

    /** Two gods who send to one another without end, and one who leads to them. */
    private static void rings() {
        PrayerWay way = Checks.fresh("land wide 2 high 1 law first" + HEAD
                + god("g", "plain", 0, 1, "from 0 to 24") + god("h", "plain", 0, 1, "from 0 to 24")
                + god("i", "plain", 0, 9, "from 0 to 24") + god("j", "plain", 0, 1, "from 0 to 24")
                + ";holds g t a 0 to 24;sends i t g;sends g t h;sends h t g;sends j u i;sends i u h;sends h u g"
                + prayer("p", "t at 1,0 hour 0", "i 2", 0, 0)
                + prayer("q", "t at 0,0 hour 0", "i 1", 0, 0)
                + prayer("r", "u at 0,0 hour 0", "j 0", 0, 0));
        way(way, 0, 2, Checks.NOTHING, 1, 0);
        Checks.told("p's altars: one an hour, and the one the last hour sends to", way, 95, way.altars(0));
        Checks.told("p's last altar", way, 1, way.altar(0, 94));
        Checks.told("p's ring has g and h", way, 2, way.ring(0));
        way(way, 1, 0, 2, 0, 0);
        Checks.told("q's ring, grants aside", way, 2, way.ring(1));
        Checks.told("r has none", way, Checks.NOTHING, way.ring(2));
        way.send(0, 1, 3);
        Checks.told("r's ring of four", way, 4, way.ring(2));
        way.sleep(0, true);
        Checks.told("hours aside", way, 4, way.ring(2));
        way.send(0, 1, 1);
        Checks.told("r's ring of two, behind two", way, 2, way.ring(2));
        way.send(2, 1, Checks.NOTHING);
        Checks.told("none is sent to", way, Checks.NOTHING, way.ring(2));
        Checks.refused("ring, no prayer", way, 1, way.ring(3));
        Checks.refused("ring, no prayer below", way, 1, way.ring(-1));
    }

    /** All six in one ring, in at every hour: the longest way there is. */
    private static void longest() {
        StringBuilder text = new StringBuilder("land wide 2 high 1 law need").append(HEAD);
        for (char name = 'f'; name <= 'k'; name++) {
            text.append(god(String.valueOf(name), "plain", 0, 1, "from 0 to 24"));
        }
        for (char name = 'f'; name <= 'k'; name++) {
            text.append(";sends ").append(name).append(" t ").append(name == 'k' ? 'f' : (char) (name + 1));
        }
        PrayerWay way = Checks.fresh(text + prayer("p", "t at 1,0 hour 0", "h 0", 0, 0));
        Checks.told("a ring of six", way, 6, way.ring(0));
        way(way, 0, 2, Checks.NOTHING, (2 + 96) % 6, 0);
        int[] gods = new int[97];
        for (int i = 0; i < gods.length; i++) {
            gods[i] = (2 + i) % 6;
        }
        path(way, 0, gods);
        Checks.told("at the end it stands nowhere yet", way, 0, way.queue((2 + 96) % 6, 95));
        way.send(1, 0, 0);
        Checks.told("a ring of two, behind four", way, 2, way.ring(0));
    }

    private static void refusals(PrayerWay way, int p) {
        Checks.refused("fate", way, 1, way.fate(p));
        Checks.refused("when", way, 1, way.when(p));
        Checks.refused("whom", way, 1, way.whom(p));
        Checks.refused("waits", way, 1, way.waits(p));
        Checks.refused("altars", way, 1, way.altars(p));
        Checks.refused("altar", way, 1, way.altar(p, 0));
        Checks.refused("late", way, 1, way.late(p));
        Checks.refused("alone", way, 1, way.alone(p, 0));
        Checks.refused("start", way, 1, way.start(p));
        Checks.refused("ring", way, 1, way.ring(p));
    }

    private static void none() {
        PrayerWay unsaid = new PrayerWay();
        refusals(unsaid, 0);
        Checks.refused("law", unsaid, 1, unsaid.law(0, 0));
        Checks.refused("queue", unsaid, 1, unsaid.queue(0, 96));
        PrayerWay way = Checks.fresh(queueing("first"));
        refusals(way, -1);
        refusals(way, 5);
        refusals(way, Integer.MIN_VALUE);
        refusals(way, Integer.MAX_VALUE);
    }

    public static void main(String[] args) {
        laws();
        ties();
        sendings();
        tempers();
        rings();
        longest();
        none();
        Checks.end("PrayersTest");
    }
}
