/** Promises 6 to 15: soil, has, owners, many, points, nobodys, firstNobodys, disputed, shared, in. */
public final class OwnersTest {
    // Soils a, c and e are on the land; d and b aren't.
    private static final String TEXT = "land wide 3 high 2 law first;row ace;row eec"
            + ";thing rain"
            + ";god p plain price 0 serves 1 from 6 to 12"
            + ";god q asleep price 0 serves 1 from 0 to 24"
            + ";god r proud price 0 serves 1 from 23 to 24"
            + ";holds p any a 0 to 24"
            + ";holds p rain c 2 to 5;holds p rain c 4 to 6"
            + ";holds q rain any 4 to 8"
            + ";thing figs"
            + ";holds r figs d 0 to 24";

    private static void refusals(PrayerWay way) {
        Checks.refused("soil(3, 0)", way, 1, way.soil(3, 0));
        Checks.refused("soil(0, 2)", way, 1, way.soil(0, 2));
        Checks.refused("soil(-1, 0)", way, 1, way.soil(-1, 0));
        Checks.refused("soil(0, -1)", way, 1, way.soil(0, -1));
        Checks.refused("has, no god", way, 1, way.has(3, 0, 0, 24));
        Checks.refused("has, no god below", way, 1, way.has(-1, 0, 0, 0));
        Checks.refused("has, no thing", way, 1, way.has(0, 2, 0, 0));
        Checks.refused("has, no soil", way, 1, way.has(0, 0, 5, 0));
        Checks.refused("has, no soil below", way, 1, way.has(0, 0, -1, 0));
        Checks.refused("has, no hour", way, 2, way.has(0, 0, 0, 24));
        Checks.refused("has, no hour below", way, 2, way.has(0, 0, 0, -1));
        Checks.refused("owners, no thing", way, 1, way.owners(2, 0, 24));
        Checks.refused("owners, no thing below", way, 1, way.owners(-1, 0, 0));
        Checks.refused("owners, no soil", way, 1, way.owners(0, 5, 0));
        Checks.refused("owners, no hour", way, 2, way.owners(0, 0, 24));
        Checks.refused("owners, no hour below", way, 2, way.owners(0, 0, -1));
        Checks.refused("many(3)", way, 1, way.many(3));
        Checks.refused("many(-1)", way, 1, way.many(-1));
        Checks.refused("shared, like", way, 1, way.shared(1, 1));
        Checks.refused("shared(0, 3)", way, 1, way.shared(0, 3));
        Checks.refused("shared(-2, 0)", way, 1, way.shared(-2, 0));
        Checks.refused("in(3, 0)", way, 1, way.in(3, 24));
        Checks.refused("in(0, 24)", way, 2, way.in(0, 24));
        Checks.refused("in(0, -1)", way, 2, way.in(0, -1));
    }

    private static void points() {
        PrayerWay way = Checks.fresh(TEXT);
        int[] soils = {0, 2, 4, 4, 4, 2};
        for (int cell = 0; cell < 6; cell++) {
            Checks.told("soil of " + cell, way, soils[cell], way.soil(cell % 3, cell / 3));
        }
        Checks.told("p has rain a", way, 1, way.has(0, 0, 0, 23));
        Checks.told("p has any: figs too, told behind", way, 1, way.has(0, 1, 0, 0));
        Checks.told("p has rain c at 1", way, 0, way.has(0, 0, 2, 1));
        Checks.told("p has rain c at 2", way, 1, way.has(0, 0, 2, 2));
        Checks.told("p has rain c at 5", way, 1, way.has(0, 0, 2, 5));
        Checks.told("p has rain c at 6", way, 0, way.has(0, 0, 2, 6));
        Checks.told("r has figs d, not on the land", way, 1, way.has(2, 1, 3, 12));
        Checks.told("r has figs c", way, 0, way.has(2, 1, 2, 12));
        Checks.told("q has rain b, not on the land", way, 1, way.has(1, 0, 1, 7));
        Checks.told("owners of rain a at 4", way, 3, way.owners(0, 0, 4));
        Checks.told("owners of rain a at 8", way, 1, way.owners(0, 0, 8));
        Checks.told("owners of figs d", way, 4, way.owners(1, 3, 0));
        Checks.told("owners of figs e", way, 0, way.owners(1, 4, 0));
        Checks.told("points", way, 2 * 3 * 24, way.points());
        Checks.told("many(p): 48 on a, 2 .. 5 on c", way, 52, way.many(0));
        Checks.told("many(q): 4 .. 7 on three soils", way, 12, way.many(1));
        Checks.told("many(r): none on the land", way, 0, way.many(2));
        // Rain a by both 4, rain c at 4 and 5 by both.
        Checks.told("shared(p, q)", way, 6, way.shared(0, 1));
        Checks.told("shared(q, p)", way, 6, way.shared(1, 0));
        Checks.told("shared(p, r)", way, 0, way.shared(0, 2));
        Checks.told("disputed", way, 6, way.disputed());
        Checks.told("nobodys", way, 144 - (52 + 12 - 6), way.nobodys());
        Checks.told("firstNobodys: rain c at 0", way, 200, way.firstNobodys());
        refusals(way);
    }

    private static void hours() {
        PrayerWay way = Checks.fresh(TEXT);
        Checks.told("p at 5", way, 0, way.in(0, 5));
        Checks.told("p at 6", way, 1, way.in(0, 6));
        Checks.told("p at 11", way, 1, way.in(0, 11));
        Checks.told("p at 12", way, 0, way.in(0, 12));
        Checks.told("q is asleep by kind", way, 0, way.in(1, 6));
        Checks.told("r at 22", way, 0, way.in(2, 22));
        Checks.told("r at 23", way, 1, way.in(2, 23));
        way.sleep(0, true);
        Checks.told("p, put to sleep", way, 0, way.in(0, 6));
        Checks.told("p has what he has", way, 52, way.many(0));
        way.sleep(0, false);
        Checks.told("p, woken", way, 1, way.in(0, 6));
        way.sleep(1, true);
        way.sleep(1, false);
        Checks.told("q, woken, stays asleep", way, 0, way.in(1, 6));
    }

    private static void none() {
        PrayerWay way = Checks.fresh("land wide 2 high 1 law need;row bb;thing t"
                + ";god g plain price 0 serves 1 from 0 to 24;holds g t b 0 to 24");
        Checks.told("all is somebody's", way, 0, way.nobodys());
        Checks.told("the first of none", way, Checks.NOTHING, way.firstNobodys());
        Checks.told("one soil only", way, 24, way.points());
        Checks.told("nothing disputed", way, 0, way.disputed());
        PrayerWay bare = Checks.fresh("land wide 2 high 1 law need;row db;thing t"
                + ";god g plain price 0 serves 1 from 0 to 24;holds g t b 0 to 23;holds g t d 0 to 24");
        Checks.told("the only one free", bare, 123, bare.firstNobodys());
        Checks.told("one is free", bare, 1, bare.nobodys());
        PrayerWay unsaid = new PrayerWay();
        Checks.refused("no land: points", unsaid, 1, unsaid.points());
        Checks.refused("no land: nobodys", unsaid, 1, unsaid.nobodys());
        Checks.refused("no land: firstNobodys", unsaid, 1, unsaid.firstNobodys());
        Checks.refused("no land: disputed", unsaid, 1, unsaid.disputed());
        Checks.refused("no land: many", unsaid, 1, unsaid.many(0));
        Checks.refused("no land: shared", unsaid, 1, unsaid.shared(0, 1));
        Checks.refused("no land: in", unsaid, 1, unsaid.in(0, 0));
        Checks.refused("no land: soil", unsaid, 1, unsaid.soil(0, 0));
    }

    public static void main(String[] args) {
        points();
        hours();
        none();
        Checks.end("OwnersTest");
    }
}
