/** Promises 32 to 37: content, saint, rest, rests, left, ends. */
public final class VillagesTest {
    private static final String HEAD = "land wide 2 high 1 law first;row ab;thing t;thing u";

    private static String god(char name, String kind) {
        return ";god " + name + " " + kind + " price 0 serves 1 from 0 to 1";
    }

    private static void villages() {
        // On a: g 7, h 10; on b: g 4, h 0, i 9 but asleep.
        PrayerWay way = Checks.fresh(HEAD + god('g', "plain") + god('h', "proud") + god('i', "asleep")
                + ";holds g t a 0 to 5;holds g u a 4 to 6;holds h any a 3 to 8;holds g any b 0 to 2"
                + ";holds i t b 0 to 9;holds i t c 0 to 24"
                + ";village v at 0,0 saint h;village w at 0,0 saint h;village x at 1,0 saint i");
        Checks.told("v: half of 10", way, 5, way.content(0));
        Checks.told("w: half of 10", way, 5, way.content(1));
        Checks.told("x: he is asleep", way, 0, way.content(2));
        Checks.told("v had better g, 7", way, 0, way.saint(0));
        Checks.told("x had better g, 4", way, 0, way.saint(2));
        Checks.told("not at rest", way, 0, way.rest());
        Checks.yes("w turns to g", way, way.changes(1, 0));
        Checks.told("w: all of 7", way, 7, way.content(1));
        Checks.told("v: all of 10", way, 10, way.content(0));
        Checks.told("v stays", way, 1, way.saint(0));
        Checks.told("w stays", way, 0, way.saint(1));
        Checks.told("x would have half of 4", way, 0, way.saint(2));
        Checks.told("not at rest yet", way, 0, way.rest());
        Checks.yes("x turns to g too", way, way.changes(2, 0));
        Checks.told("w: half of 7, downwards", way, 3, way.content(1));
        Checks.told("w had better h again: half of 10", way, 1, way.saint(1));
        Checks.told("x: half of 4", way, 2, way.content(2));
        Checks.yes("w turns to h", way, way.changes(1, 1));
        Checks.told("x: all of 4", way, 4, way.content(2));
        // v: h shared 5, g shared with x 3; at rest.
        Checks.told("at rest", way, 1, way.rest());
        Checks.told("one row is at rest", way, 1, way.rests());
        way.sleep(1, true);
        Checks.told("h sleeps: v has nothing", way, 0, way.content(0));
        // All with g: 2, 2, 1; each alone on others 0. So all three with g is the one rest.
        Checks.told("h sleeps: not at rest", way, 0, way.rest());
        Checks.told("h sleeps: rests", way, 1, way.rests());
        way.sleep(0, true);
        Checks.told("all asleep: at rest", way, 1, way.rest());
        Checks.told("all asleep: every row", way, 27, way.rests());
        Checks.told("all asleep: the first", way, 0, way.saint(2));
        Checks.refused("content(3)", way, 1, way.content(3));
        Checks.refused("content(-1)", way, 1, way.content(-1));
        Checks.refused("saint(3)", way, 1, way.saint(3));
        Checks.refused("saint(-1)", way, 1, way.saint(-1));
    }

    /** Each is asked first of all, and again behind an act, with nothing looked at ahead of it. */
    private static void askedFirst() {
        String text = HEAD + god('g', "plain") + god('h', "plain") + ";holds h t a 0 to 9;holds g t b 0 to 1"
                + ";village v at 0,0 saint g";
        PrayerWay saint = Checks.fresh(text);
        Checks.told("saint first", saint, 1, saint.saint(0));
        saint.sleep(1, true);
        Checks.told("saint behind an act", saint, 0, saint.saint(0));
        PrayerWay rest = Checks.fresh(text);
        Checks.told("rest first", rest, 0, rest.rest());
        rest.changes(0, 1);
        Checks.told("rest behind an act", rest, 1, rest.rest());
        PrayerWay rests = Checks.fresh(text);
        Checks.told("rests first", rests, 1, rests.rests());
        Checks.told("rests leaves the saints", rests, 0, rests.village(0, 1));
        rests.sleep(1, true);
        Checks.told("rests behind an act", rests, 2, rests.rests());
        PrayerWay content = Checks.fresh(text);
        content.changes(0, 1);
        Checks.told("content behind an act", content, 9, content.content(0));
    }

    private static void none() {
        PrayerWay bare = Checks.fresh(HEAD + god('g', "plain"));
        Checks.told("no villages: at rest", bare, 1, bare.rest());
        Checks.told("no villages: one empty row", bare, 1, bare.rests());
        Checks.refused("no villages: content", bare, 1, bare.content(0));
        Checks.told("no luck, no spells: left", bare, 0, bare.left());
        Checks.told("no luck, no spells: ends", bare, 1, bare.ends(0));
        Checks.told("no luck, no spells: the least", bare, 0, bare.ends(1));
        PrayerWay unsaid = new PrayerWay();
        Checks.refused("no land: content", unsaid, 1, unsaid.content(0));
        Checks.refused("no land: saint", unsaid, 1, unsaid.saint(0));
        Checks.refused("no land: rest", unsaid, 1, unsaid.rest());
        Checks.refused("no land: rests", unsaid, 1, unsaid.rests());
        Checks.refused("no land: left", unsaid, 1, unsaid.left());
        Checks.refused("no land: ends", unsaid, 1, unsaid.ends(0));
    }

    private static void spells(String lines, int left, int many, int least, int greatest) {
        PrayerWay way = Checks.fresh(HEAD + god('g', "plain") + lines);
        Checks.told("left of" + lines, way, left, way.left());
        Checks.told("ends of" + lines, way, many, way.ends(0));
        Checks.told("least of" + lines, way, least, way.ends(1));
        Checks.told("greatest of" + lines, way, greatest, way.ends(2));
        Checks.told("left again of" + lines, way, left, way.left());
        Checks.refused("ends(3)", way, 1, way.ends(3));
        Checks.refused("ends(-1)", way, 1, way.ends(-1));
    }

    private static void spells() {
        spells(";luck 7", 7, 1, 7, 7);
        spells(";luck 7;spell shares 1;spell times 1", 7, 1, 7, 7);
        spells(";luck 2;spell takes 5;spell adds 3", 3, 2, 0, 3);
        spells(";luck 7;spell shares 2;spell times 2", 6, 2, 6, 7);
        spells(";spell shares 9;luck 80", 8, 1, 8, 8);
        // adds times takes: (5+3)*2-4 = 12, (5+3-4)*2 = 8, 5*2+3-4 = 9 twice, (5-4+3)*2 = 8, (5-4)*2+3 = 5
        spells(";luck 5;spell adds 3;spell times 2;spell takes 4", 12, 4, 5, 12);
        spells(";luck 99" + ";spell times 9".repeat(6), 99 * 531441, 1, 99 * 531441, 99 * 531441);
        PrayerWay way = Checks.fresh(HEAD + god('g', "plain") + ";luck 1;spell adds 1;spell times 3");
        Checks.told("two ends", way, 2, way.ends(0));
        Checks.land(way, HEAD + god('g', "plain") + ";luck 4");
        Checks.told("a new land's ends", way, 1, way.ends(0));
        Checks.told("a new land's greatest", way, 4, way.ends(2));
    }

    public static void main(String[] args) {
        villages();
        askedFirst();
        none();
        spells();
        Checks.end("VillagesTest");
    }
}
