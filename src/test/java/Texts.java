import java.nio.charset.StandardCharsets;

/** Texts of LANDS for the tests: plain lines to build on, and what a text is due. */
final class Texts {
    static final String HEAD = "land wide 2 high 1 law first";
    static final String ROW = ";row ab";
    static final String THINGS = ";thing t;thing u";
    static final String GOD = " plain price 0 serves 1 from 0 to 24";
    static final String GODS = ";god g" + GOD + ";god h" + GOD;
    static final String ALL = HEAD + ROW + THINGS + GODS;
    static final String PRAYER = " t at 0,0 hour 0 starts g 0 gift 0 need 0";
    static final String PRAYERS = ALL + ";prayer p" + PRAYER + ";prayer q" + PRAYER;
    static final String[] SORTS =
            "land row thing luck god holds sends bars prayer clash village spell saw".split(" ");
    static final String[] RESERVED = (String.join(" ", SORTS) + " any").split(" ");

    private Texts() {
    }

    /** The place of the fault is where the bar stands; the bar itself isn't in the text. */
    static void fault(int number, String text) {
        int place = text.indexOf('|');
        faultAt(number, place, text.substring(0, place) + text.substring(place + 1));
    }

    static void faultAt(int number, int place, String text) {
        PrayerWay way = new PrayerWay();
        Checks.refused("land: " + text, way, 4, Checks.land(way, text));
        Checks.due("fault of " + text, number, way.fault());
        Checks.due("where of " + text, place, way.where());
        Checks.due("tape behind " + text, 0, way.size(14));
        Checks.due("no land behind " + text, 0, way.size(4));
    }

    static PrayerWay good(String text) {
        PrayerWay way = new PrayerWay();
        int got = Checks.land(way, text);
        Checks.due("trouble of " + text, 0, way.trouble());
        Checks.due("fault of " + text, 0, way.fault());
        Checks.due("where of " + text, -1, way.where());
        Checks.due("gods of " + text, way.size(4), got);
        Checks.due("tape behind " + text, 0, way.size(14));
        return way;
    }

    /** Lines over and over; # stands for a letter of its own in each, from i on. */
    static String times(int n, String lines) {
        StringBuilder all = new StringBuilder();
        for (int i = 0; i < n; i++) {
            all.append(lines.replace('#', (char) ('i' + i)));
        }
        return all.toString();
    }

    static byte[] bytes(String text) {
        return text.getBytes(StandardCharsets.ISO_8859_1);
    }
}
