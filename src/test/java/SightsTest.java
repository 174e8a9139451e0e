/** Promises 38 to 40: fits, ask, askMost. */
public final class SightsTest {
    private static final String HEAD = "land wide 2 high 1 law first;row bd;thing t;thing u";

    private static String gods(int n) {
        StringBuilder all = new StringBuilder(HEAD);
        for (int i = 0; i < n; i++) {
            all.append(";god ").append((char) ('g' + i)).append(i == 2 ? " asleep" : " plain");
            all.append(" price 0 serves 1 from 0 to 1");
        }
        return all.toString();
    }

    private static void seen() {
        String text = gods(4) + ";holds g t b 0 to 4;holds h t b 2 to 6;holds i any any 3 to 5;holds j u d 7 to 8"
                + ";holds j t c 0 to 24";
        PrayerWay all = Checks.fresh(text);
        Checks.told("nothing was seen: all fit", all, 15, all.fits());
        // t b at 2: g and h have it, i and j haven't.
        Checks.told("ask for t b at 2", all, 102, all.ask());
        Checks.told("two at most", all, 2, all.askMost());
        PrayerWay yes = Checks.fresh(text + ";saw t b 3 yes");
        Checks.told("yes: three fit, asleep or not", yes, 7, yes.fits());
        Checks.told("ask for t b at 0", yes, 100, yes.ask());
        Checks.told("two at most of three", yes, 2, yes.askMost());
        PrayerWay no = Checks.fresh(text + ";saw t b 3 yes;saw t d 3 no");
        Checks.told("yes and no", no, 3, no.fits());
        Checks.told("ask which of two", no, 100, no.ask());
        Checks.told("one at most", no, 1, no.askMost());
        PrayerWay off = Checks.fresh(text + ";saw t c 9 yes");
        Checks.told("seen where no cell is", off, 8, off.fits());
        Checks.refused("one fits: ask", off, 6, off.ask());
        Checks.refused("one fits: askMost", off, 6, off.askMost());
        PrayerWay against = Checks.fresh(text + ";saw t b 3 yes;saw t b 3 no");
        Checks.told("both can't be", against, 0, against.fits());
        Checks.refused("none fits: ask", against, 6, against.ask());
        Checks.refused("none fits: askMost", against, 6, against.askMost());
    }

    private static void alike() {
        PrayerWay way = Checks.fresh(gods(2) + ";holds g t c 0 to 24");
        Checks.told("nothing parts them on the land: the first point", way, 100, way.ask());
        Checks.told("both stay", way, 2, way.askMost());
        PrayerWay most = Checks.fresh(gods(4) + ";holds g t d 5 to 6");
        Checks.told("askMost, unasked", most, 3, most.askMost());
        PrayerWay later = Checks.fresh(gods(2) + ";holds g u d 23 to 24");
        Checks.told("the last point of all", later, 1323, later.ask());
        PrayerWay unsaid = new PrayerWay();
        Checks.refused("no land: fits", unsaid, 1, unsaid.fits());
        Checks.refused("no land: ask", unsaid, 1, unsaid.ask());
        Checks.refused("no land: askMost", unsaid, 1, unsaid.askMost());
    }

    public static void main(String[] args) {
        seen();
        alike();
        Checks.end("SightsTest");
    }
}
