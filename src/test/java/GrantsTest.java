/** Promises 28 to 31: together, offended, keep, once. */
public final class GrantsTest {
    private static final String HEAD = "land wide 2 high 1 law first;row ab;thing t;thing u";
    private static final String GOD = " plain price 5 serves 9 from 0 to 24";

    private static String gods(int n) {
        StringBuilder all = new StringBuilder(HEAD);
        for (int i = 0; i < n; i++) {
            all.append(";god ").append((char) ('g' + i)).append(GOD);
        }
        return all.toString();
    }

    private static String prayer(char name, char god, int gift) {
        return ";prayer " + name + " t at 0,0 hour 0 starts " + god + " 0 gift " + gift + " need 0";
    }

    private static void clashes() {
        String text = gods(3) + ";holds g t a 0 to 1;holds h t a 0 to 1;holds i t a 0 to 1"
                + prayer('m', 'g', 5) + prayer('n', 'g', 5) + prayer('o', 'h', 5) + prayer('p', 'h', 5)
                + prayer('q', 'i', 5) + prayer('r', 'i', 4);
        PrayerWay free = Checks.fresh(text);
        Checks.told("nothing clashes: all granted", free, 31, free.together());
        Checks.told("nothing clashes: none offended", free, 0, free.offended());
        // A path m - o - n - p: two of four, the least bits are m and n.
        PrayerWay path = Checks.fresh(text + ";clash m o;clash o n;clash n p");
        Checks.told("m, n and q", path, 1 + 2 + 16, path.together());
        Checks.told("g or h, and g is less", path, 1, path.offended());
        // m clashes with all others of g and h, q with p.
        PrayerWay star = Checks.fresh(text + ";clash m n;clash m o;clash m p;clash p q");
        Checks.told("n, o and one of p, q", star, 2 + 4 + 8, star.together());
        Checks.told("m with n is within g; p with q wants h or i", star, 3, star.offended());
        PrayerWay one = Checks.fresh(text + ";clash q o;clash m p");
        Checks.told("h alone is in both clashes", one, 2, one.offended());
        // r isn't granted: its clashes are none.
        PrayerWay dead = Checks.fresh(text + ";clash r q;clash m r");
        Checks.told("an ungranted one clashes with none", dead, 31, dead.together());
        Checks.told("an ungranted one offends nobody", dead, 0, dead.offended());
        dead.price(0, 6);
        Checks.told("g's are dead now", dead, 4 + 8 + 16, dead.together());
        dead.price(2, 4);
        Checks.told("r is granted now", dead, 4 + 8 + 16, dead.together());
        Checks.told("i is offended now", dead, 4, dead.offended());
    }

    private static void offices() {
        PrayerWay none = Checks.fresh(gods(2) + ";holds g t c 0 to 24");
        Checks.told("nothing is had on the land: keep", none, 0, none.keep());
        Checks.told("nothing is had on the land: once", none, 0, none.once());
        // g and h halve the day, i has all of it.
        PrayerWay whole = Checks.fresh(gods(3) + ";holds g t a 0 to 12;holds h t a 12 to 24;holds i t a 0 to 24");
        Checks.told("i alone", whole, 4, whole.keep());
        Checks.told("i alone, once", whole, 4, whole.once());
        whole.sleep(2, true);
        Checks.told("asleep or not", whole, 4, whole.keep());
        PrayerWay like = Checks.fresh(gods(3) + ";holds g t a 0 to 5;holds h t a 0 to 5;holds i u b 3 to 4");
        Checks.told("of like ones the least bits", like, 5, like.keep());
        Checks.told("of like ones the least bits, once", like, 5, like.once());
        // Two overlap; three don't.
        PrayerWay lap = Checks.fresh(gods(5) + ";holds g t a 0 to 14;holds h t a 10 to 24"
                + ";holds i t a 0 to 8;holds j t a 8 to 16;holds k t a 16 to 24");
        Checks.told("two hold all", lap, 3, lap.keep());
        Checks.told("three hold each once", lap, 28, lap.once());
        PrayerWay never = Checks.fresh(gods(2) + ";holds g t a 0 to 14;holds h t a 13 to 24");
        Checks.told("both", never, 3, never.keep());
        Checks.told("it can't be", never, Checks.NOTHING, never.once());
    }

    private static void none() {
        PrayerWay unsaid = new PrayerWay();
        Checks.refused("no land: together", unsaid, 1, unsaid.together());
        Checks.refused("no land: offended", unsaid, 1, unsaid.offended());
        Checks.refused("no land: keep", unsaid, 1, unsaid.keep());
        Checks.refused("no land: once", unsaid, 1, unsaid.once());
        PrayerWay bare = Checks.fresh(gods(1));
        Checks.told("no prayers: together", bare, 0, bare.together());
        Checks.told("no prayers: offended", bare, 0, bare.offended());
    }

    public static void main(String[] args) {
        clashes();
        offices();
        none();
        Checks.end("GrantsTest");
    }
}
