/** Promises 1 to 5: a new object, feed, land, fault, where. */
public final class LandTest {
    private static final String HEAD = Texts.HEAD;
    private static final String ROW = Texts.ROW;
    private static final String THINGS = Texts.THINGS;
    private static final String GOD = Texts.GOD;
    private static final String GODS = Texts.GODS;
    private static final String ALL = Texts.ALL;
    private static final String PRAYER = Texts.PRAYER;
    private static final String PRAYERS = Texts.PRAYERS;

    private static void newObject() {
        PrayerWay way = new PrayerWay();
        Checks.due("new: trouble", 0, way.trouble());
        Checks.due("new: fault", 0, way.fault());
        Checks.due("new: where", -1, way.where());
        for (int what = 0; what <= 14; what++) {
            Checks.due("new: size " + what, 0, way.size(what));
        }
        Checks.refused("new: points", way, 1, way.points());
        Checks.refused("new: owners", way, 1, way.owners(0, 0, 99));
        Checks.refused("new: has", way, 1, way.has(0, 0, 0, 99));
        Checks.refused("new: soil", way, 1, way.soil(0, 0));
    }

    private static void feeding() {
        PrayerWay way = new PrayerWay();
        Checks.refused("land(1) of nothing", way, 2, way.land(1));
        for (int i = 1; i <= 60; i++) {
            Checks.due("feed " + i, 20 * i, way.feed(0, -1, 2, -3, Integer.MIN_VALUE));
        }
        Checks.due("feed beyond", -1, way.feed(0, 0, 0, 0, 0));
        Checks.due("feed beyond leaves trouble", 2, way.trouble());
        Checks.due("feed beyond leaves the tape", 1200, way.size(14));
        Checks.refused("land(1201)", way, 2, way.land(1201));
        Checks.refused("land(-1)", way, 2, way.land(-1));
        Checks.due("the tape stays", 1200, way.size(14));
        Checks.refused("land(1200)", way, 4, way.land(1200));
        Checks.due("a bad first byte: fault", 1, way.fault());
        Checks.due("a bad first byte: where", 0, way.where());
        Checks.due("the tape is empty then", 0, way.size(14));
        Checks.due("feed again", 20, way.feed(0x6c616e64, 0, 0, 0, 0));
        Checks.due("feed leaves where", 0, way.where());
        Checks.refused("the highest byte is first", way, 4, way.land(4));
        Checks.due("the highest byte is first: where", 4, way.where());
    }

    private static void longest() {
        StringBuilder text = new StringBuilder(ALL);
        while (text.length() < 1199) {
            text.append(' ');
        }
        PrayerWay way = new PrayerWay();
        Checks.told("1,200 bytes", way, 2, Checks.land(way, text + " "));
        Checks.told("1,200 bytes, not all of them taken", way, 2, Checks.land(way, text + "#") + taken(way, text));
    }

    private static int taken(PrayerWay way, StringBuilder text) {
        Checks.due("the last byte is no token", 1199, way.where());
        Checks.feed(way, (text + "#").getBytes());
        return 1 + way.land(1199);
    }

    private static void staying() {
        PrayerWay way = Checks.fresh(ALL);
        way.sleep(0, true);
        way.mark();
        Checks.refused("a faulty land", way, 4, Checks.land(way, HEAD + ";x"));
        Checks.due("the LAND stays", 2, way.size(4));
        Checks.due("what was put to sleep stays", 1, way.god(0, 5));
        Checks.due("where is gone by another call", -1, way.where());
        Checks.due("fault stays", 1, way.fault());
        Checks.due("its ACTS stay", 1, way.size(12));
        Checks.due("its MARKS stay", 1, way.size(13));
        Checks.refused("land by a number", way, 2, way.land(1));
        Checks.due("fault of the latest not refused by 2", 1, way.fault());
        Checks.due("where, refused by 2", -1, way.where());
        way.seed(7);
        Checks.told("a new LAND", way, 1, Checks.land(way, HEAD + ROW + ";thing t;god g" + GOD));
        Checks.due("a new LAND: no fault", 0, way.fault());
        Checks.due("a new LAND: nobody put to sleep", 0, way.god(0, 5));
        Checks.due("a new LAND: SEED", 0, way.size(11));
        Checks.due("a new LAND: nothing to undo", 0, way.size(12));
        Checks.due("a new LAND: no MARKS", 0, way.size(13));
    }

    /** Of an old LAND nothing stays in a new one, though the object is the same. */
    private static void again() {
        PrayerWay way = Checks.fresh(PRAYERS + ";clash p q;luck 50;holds g any any 0 to 24;sends g t h;bars g h"
                + ";village v at 0,0 saint h;spell adds 5;saw t a 0 yes");
        Checks.told("clashing", way, 1, way.together());
        Checks.told("the queue", way, 1, way.queue(0, 0));
        for (int i = 0; i < 2; i++) {
            Checks.told("again", way, 2, Checks.land(way, PRAYERS.replace("gift 0", "gift 7")));
            Checks.told("luck", way, 0, way.left());
            Checks.told("holds", way, 0, way.many(0));
            Checks.told("sends", way, Checks.NOTHING, way.sends(0, 0));
            Checks.told("bars", way, 0, way.bars(0, 1));
            Checks.told("dead", way, 1, way.fate(0));
            Checks.told("fits", way, 3, way.fits());
            Checks.told("ends", way, 0, way.ends(2));
            Checks.due("clashes", 0, way.size(7));
            Checks.due("villages", 0, way.size(8));
            Checks.told("a third", way, 2, Checks.land(way, PRAYERS + ";holds g t a 0 to 24"));
            Checks.told("no clash", way, 3, way.together());
            Checks.told("no other law", way, 0, way.size(2));
        }
        Checks.told("another name", way, 1, Checks.land(way, HEAD + ROW + ";thing g;god t" + GOD));
        Checks.refused("no prayer", way, 1, way.fate(0));
        Checks.noLed("nothing granted", way, 0);
    }

    private static void form() {
        Texts.fault(1, "|");
        Texts.fault(1, "   |");
        Texts.fault(1, "|foo");
        Texts.fault(1, "|any");
        Texts.fault(1, "|Land wide");
        Texts.fault(1, "|;");
        Texts.fault(1, "land |2");
        Texts.fault(1, "land |high");
        Texts.fault(1, "land wide |x");
        Texts.fault(1, "land wide 2|");
        Texts.fault(1, "land wide 2  |");
        Texts.fault(1, "land wide 2 high 1 law |second");
        Texts.fault(1, HEAD + "|,");
        Texts.fault(1, HEAD + " |row ab");
        Texts.fault(1, HEAD + ";|");
        Texts.fault(1, HEAD + "; |;");
        Texts.fault(1, HEAD + ";|any");
        Texts.fault(1, HEAD + ";row |5");
        Texts.fault(1, HEAD + ";row |abcdefghi");
        Texts.fault(1, HEAD + ";thing |abcdefghi");
        Texts.fault(1, HEAD + ";thing |5");
        Texts.fault(1, HEAD + ";thing abc|5");
        Texts.fault(1, HEAD + ";thing abc|-d");
        Texts.fault(1, HEAD + ";thing abc|D");
        Texts.fault(1, HEAD + ";thing a |b");
        Texts.fault(1, HEAD + ";thing a|\u00e9");
        Texts.fault(1, HEAD + ";thing a|\t");
        Texts.fault(1, HEAD + ";luck |1000");
        Texts.fault(1, HEAD + ";luck |0001");
        Texts.fault(1, HEAD + ";luck 5|a");
        Texts.fault(1, HEAD + ";luck |x");
        for (String word : Texts.RESERVED) {
            Texts.fault(1, HEAD + ";thing |" + word);
            Texts.fault(1, ALL + ";sends g |" + word);
            Texts.fault(1, ALL + ";bars |" + word);
        }
        Texts.fault(1, HEAD + ";god g |odd");
        Texts.fault(1, HEAD + ";god g plain |serves");
        Texts.fault(1, HEAD + ";god g plain price 1 serves 1 from 0 |till");
        Texts.fault(1, ALL + ";holds g |land");
        Texts.fault(1, ALL + ";holds g t |5");
        Texts.fault(1, ALL + ";holds g t a |b");
        Texts.fault(1, ALL + ";holds g t a 0 |24");
        Texts.fault(1, ALL + ";prayer p |any");
        Texts.fault(1, ALL + ";prayer p t at 0 |0");
        Texts.fault(1, ALL + ";prayer p t at 0,0 |hours");
        Texts.fault(1, PRAYERS + ";clash p |any");
        Texts.fault(1, ALL + ";village v at 0,0 |g");
        Texts.fault(1, ALL + ";spell |odd");
        Texts.fault(1, ALL + ";spell adds |x");
        Texts.fault(1, ALL + ";saw t a 0 |maybe");
        Texts.fault(1, ALL + ";saw t a 0|");
    }

    private static void names() {
        Texts.fault(2, ALL + ";holds |x");
        Texts.fault(2, ALL + ";holds |t");
        Texts.fault(2, ALL + ";holds g |x");
        Texts.fault(2, ALL + ";holds g |h");
        Texts.fault(2, ALL + ";sends |t");
        Texts.fault(2, ALL + ";sends g |g");
        Texts.fault(2, ALL + ";sends g t |u");
        Texts.fault(2, ALL + ";bars g |x");
        Texts.fault(2, ALL + ";prayer p |p");
        Texts.fault(2, ALL + ";prayer p |g");
        Texts.fault(2, ALL + ";prayer p t at 0,0 hour 0 starts |p");
        Texts.fault(2, ALL + ";prayer p t at 0,0 hour 0 starts |t");
        Texts.fault(2, PRAYERS + ";clash |g");
        Texts.fault(2, PRAYERS + ";clash p |r");
        Texts.fault(2, ALL + ";village v at 0,0 saint |v");
        Texts.fault(2, ALL + ";saw |g");
        Texts.fault(2, HEAD + ";holds |g");
        Texts.fault(3, ALL + ";thing |t");
        Texts.fault(3, ALL + ";thing |g");
        Texts.fault(3, ALL + ";god |g");
        Texts.fault(3, ALL + ";god |t");
        Texts.fault(3, PRAYERS + ";prayer |p");
        Texts.fault(3, PRAYERS + ";village |p");
        Texts.fault(3, ALL + ";village v at 0,0 saint g;thing |v");
        Texts.fault(3, ALL + ";sends g t |g");
        Texts.fault(3, ALL + ";sends g t h;sends g |t");
        Texts.fault(3, ALL + ";bars g |g");
        Texts.fault(3, ALL + ";bars g h;bars g |h");
        Texts.fault(3, PRAYERS + ";clash p |p");
        Texts.fault(3, PRAYERS + ";clash p q;clash p |q");
        Texts.fault(3, PRAYERS + ";clash p q;clash q |p");
        Texts.fault(3, HEAD + ";|land");
        Texts.fault(3, HEAD + ";luck 0;|luck");
        Texts.good(ALL + ";bars g h;bars h g;sends g t h;sends g u h;sends h t g");
        Texts.good(HEAD + ROW + ";thing wide;thing a;thing abcdefgh;god to" + GOD + ";holds to wide a 0 to 1");
    }

    private static void bounds() {
        Texts.fault(4, "land wide |1");
        Texts.fault(4, "land wide |7");
        Texts.fault(4, "land wide 2 high |0");
        Texts.fault(4, "land wide 2 high |5");
        Texts.fault(4, HEAD + ";luck |100");
        Texts.fault(4, HEAD + ";god g plain price |100");
        Texts.fault(4, HEAD + ";god g plain price 0 serves |0");
        Texts.fault(4, HEAD + ";god g plain price 0 serves |10");
        Texts.fault(4, HEAD + ";god g plain price 0 serves 9 from |24");
        Texts.fault(4, HEAD + ";god g plain price 0 serves 9 from 7 to |7");
        Texts.fault(4, HEAD + ";god g plain price 0 serves 9 from 7 to |25");
        Texts.fault(4, ALL + ";holds g t a |24");
        Texts.fault(4, ALL + ";holds g t a 3 to |3");
        Texts.fault(4, ALL + ";holds g t a 3 to |25");
        Texts.fault(4, ALL + ";prayer p t at |2");
        Texts.fault(4, ALL + ";prayer p t at 1,|1");
        Texts.fault(4, ALL + ";prayer p t at 1,0 hour |24");
        Texts.fault(4, ALL + ";prayer p t at 1,0 hour 23 starts g |24");
        Texts.fault(4, ALL + ";prayer p t at 1,0 hour 23 starts g 23 gift |100");
        Texts.fault(4, ALL + ";prayer p t at 1,0 hour 23 starts g 23 gift 99 need |100");
        Texts.fault(4, ALL + ";village v at |2");
        Texts.fault(4, ALL + ";village v at 0,|1");
        Texts.fault(4, ALL + ";spell adds |0");
        Texts.fault(4, ALL + ";spell adds |10");
        Texts.fault(4, ALL + ";saw t a |24");
        Texts.good("land wide 6 high 4 law need;row abcdea;row abcdea;row abcdea;row abcdea;luck 99;thing t"
                + ";god g asleep price 99 serves 9 from 23 to 24;holds g any any 23 to 24"
                + ";prayer p t at 5,3 hour 23 starts g 23 gift 99 need 99;village v at 5,3 saint g"
                + ";spell shares 9;saw t e 23 no");
        Texts.good("land wide 002high001law gift;row ab;thing t;god g" + GOD);
    }

    private static void many() {
        Texts.fault(5, HEAD + Texts.times(6, ";thing #") + ";|thing");
        Texts.fault(5, HEAD + Texts.times(6, ";god #" + GOD) + ";|god");
        Texts.fault(5, HEAD + ";row ab;|row");
        Texts.fault(5, "land wide 2 high 4 law need" + Texts.times(4, ";row ab") + ";|row ab");
        Texts.fault(5, ALL + Texts.times(16, ";holds g t a 0 to 1") + ";|holds");
        String six = ";thing t;thing u;thing v" + ";god g" + GOD + ";god h" + GOD + ";god i" + GOD + ";god j" + GOD;
        String twelve = HEAD + six;
        for (char god = 'g'; god <= 'j'; god++) {
            for (char thing = 't'; thing <= 'v'; thing++) {
                twelve += ";sends " + god + " " + thing + " " + (god == 'g' ? 'h' : 'g');
            }
        }
        Texts.fault(5, twelve + ";|sends");
        Texts.fault(5, HEAD + six + ";bars g h;bars h g;bars g i;bars i g;bars h i;bars i h;|bars");
        Texts.fault(5, ALL + Texts.times(8, ";prayer #" + PRAYER) + ";|prayer");
        Texts.fault(5, ALL + Texts.times(8, ";prayer #" + PRAYER) + ";clash i j;clash i k;clash i l;clash i m;clash i n"
                + ";clash i o;clash i p;clash j k;|clash");
        Texts.fault(5, ALL + Texts.times(4, ";village # at 0,0 saint g") + ";|village");
        Texts.fault(5, ALL + Texts.times(6, ";spell adds 1") + ";|spell");
        Texts.fault(5, ALL + Texts.times(8, ";saw t a 0 yes") + ";|saw");
        Texts.good(ALL + Texts.times(4, ";thing #"));
        Texts.good(ALL + Texts.times(4, ";god #" + GOD));
        Texts.good(ALL + ";holds g t a 0 to 1".repeat(16) + ";saw t a 0 yes".repeat(8) + ";spell adds 1".repeat(6));
        Texts.good(ALL + Texts.times(8, ";prayer #" + PRAYER) + ";clash i j;clash i k;clash i l;clash i m;clash i n"
                + ";clash i o;clash i p;clash j k");
        Texts.good(ALL + Texts.times(4, ";village # at 0,0 saint g"));
    }

    private static void lacks() {
        for (String word : "row thing luck god holds sends bars prayer clash village spell saw".split(" ")) {
            Texts.fault(6, "|" + word);
            Texts.fault(6, " |" + word + " x");
        }
        Texts.fault(6, HEAD + "|");
        Texts.fault(6, HEAD + THINGS + GODS + "|");
        Texts.fault(6, HEAD + ROW + GODS + "|");
        Texts.fault(6, HEAD + ROW + THINGS + "  |");
        Texts.fault(6, "land wide 2 high 2 law first" + ROW + THINGS + GODS + "|");
        Texts.fault(7, HEAD + ";row |a");
        Texts.fault(7, HEAD + ";row |abc");
        Texts.fault(7, HEAD + ";row |af");
        Texts.fault(7, "land wide 3 high 1 law first;row |any");
        Texts.fault(7, "land wide 4 high 1 law first;row |land");
        Texts.fault(7, ALL + ";holds g t |f");
        Texts.fault(7, ALL + ";holds g t |aa");
        Texts.fault(7, ALL + ";holds g any |land");
        Texts.fault(7, ALL + ";saw t |any");
        Texts.fault(7, ALL + ";saw t |f");
        Texts.good(HEAD + THINGS + GODS + ROW);
        Texts.good(" land  wide 2high 1law need ;row ee; thing t;god g" + GOD + " ");
    }

    public static void main(String[] args) {
        newObject();
        feeding();
        longest();
        staying();
        again();
        form();
        names();
        bounds();
        many();
        lacks();
        Checks.end("LandTest");
    }
}
