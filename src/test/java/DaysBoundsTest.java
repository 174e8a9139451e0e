/** Terms II, sentence by sentence: points, hours, who is in, and each prayer's way at the ends of the days. */
public final class DaysBoundsTest {
    private static final String HEAD = "land wide 2 high 1 law first;row ab;thing t;thing u";

    private static String god(String name, String kind, int price, int serves, int from, int to) {
        return ";god " + name + " " + kind + " price " + price + " serves " + serves + " from " + from + " to " + to;
    }

    private static String plain(String name, int from, int to) {
        return god(name, "plain", 0, 1, from, to);
    }

    private static String prayer(String name, int hour, String god, int start, int gift) {
        return ";prayer " + name + " t at 0,0 hour " + hour + " starts " + god + " " + start + " gift " + gift + " need 0";
    }

    private static void way(PrayerWay way, int p, int fate, int when, int whom, int waits) {
        Checks.told("fate " + p, way, fate, way.fate(p));
        Checks.told("when " + p, way, when, way.when(p));
        Checks.told("whom " + p, way, whom, way.whom(p));
        Checks.told("waits " + p, way, waits, way.waits(p));
    }

    // ---- points

    /** "CELLS have numbers: wide times y and x." */
    private static void cells() {
        String rows = ";row bcdeab;row cdeabc;row deabcd;row eabcde";
        for (int cell : new int[] {0, 1, 5, 6, 18, 23}) {
            int x = cell % 6;
            int y = cell / 6;
            String at = " at " + x + "," + y;
            PrayerWay way = Checks.fresh("land wide 6 high 4 law need" + rows + ";thing t" + plain("g", 0, 24)
                    + ";holds g t " + (char) ('a' + (x + y + 1) % 5) + " 7 to 8"
                    + ";prayer p t" + at + " hour 7 starts g 0 gift 0 need 0;village v" + at + " saint g");
            Checks.told("soil", way, (x + y + 1) % 5, way.soil(x, y));
            Checks.told("its cell", way, cell, way.prayer(0, 1));
            Checks.told("the village's", way, cell, way.village(0, 0));
            Checks.told("its soil is that cell's", way, 0, way.fate(0));
            Checks.told("and the village's", way, 1, way.content(0));
        }
    }

    /** "A POINT is a THING, a SOIL that some CELL has, an hour of the day." */
    private static void points() {
        for (int soils = 1; soils <= 5; soils++) {
            for (int things = 1; things <= 6; things++) {
                String row = "aaaaaa".substring(soils) + "abcde".substring(5 - soils);
                PrayerWay way = Checks.fresh("land wide 6 high 1 law need;row " + row + Texts.times(things, ";thing #")
                        + plain("g", 0, 1));
                int unlike = soils == 5 ? 5 : soils + 1;
                Checks.told("points", way, 24 * things * unlike, way.points());
                Checks.told("all nobody's", way, 24 * things * unlike, way.nobodys());
                Checks.told("none disputed", way, 0, way.disputed());
                Checks.told("the first", way, 0, way.firstNobodys());
            }
        }
        PrayerWay rows = Checks.fresh("land wide 2 high 4 law need;row aa;row ab;row aa;row ce;thing t" + plain("g", 0, 1)
                + ";holds g t e 0 to 24;holds g t c 0 to 1;holds g t d 0 to 24");
        Checks.told("soils of every row", rows, 4 * 24, rows.points());
        Checks.told("his on the last row's", rows, 25, rows.many(0));
        Checks.told("nobody's", rows, 71, rows.nobodys());
        PrayerWay one = Checks.fresh("land wide 2 high 1 law need;row ee;thing t" + plain("g", 0, 1) + plain("h", 0, 1)
                + ";holds g any any 0 to 23;holds g t e 23 to 24;holds h any a 0 to 24;holds h any d 0 to 24");
        Checks.told("one soil", one, 24, one.points());
        Checks.told("all of it", one, 24, one.many(0));
        Checks.told("only where no cell is", one, 0, one.many(1));
        Checks.told("there he has it too", one, 1, one.has(1, 0, 0, 23));
        Checks.told("and there are owners", one, 3, one.owners(0, 0, 0));
        Checks.told("shared by none on the land", one, 0, one.shared(0, 1));
        Checks.told("disputed by none on the land", one, 0, one.disputed());
        Checks.told("nobody's: none", one, 0, one.nobodys());
        Checks.told("the first of none", one, -2, one.firstNobodys());
    }

    /** "NOBODY'S: POINTS that no GOD HAS"; "ORDER of POINTS: by THINGS, then SOILS, then hours": the last of all. */
    private static void lastPoint() {
        String text = "land wide 5 high 1 law need;row edcba" + Texts.times(6, ";thing #") + plain("g", 0, 1)
                + ";holds g i any 0 to 24;holds g j any 0 to 24;holds g k any 0 to 24;holds g l any 0 to 24"
                + ";holds g m any 0 to 24;holds g n any 0 to 23";
        PrayerWay five = Checks.fresh(text);
        Checks.told("five are left", five, 5, five.nobodys());
        Checks.told("the first of them", five, 5023, five.firstNobodys());
        PrayerWay last = Checks.fresh(text + ";holds g n a 23 to 24;holds g n b 23 to 24;holds g n c 23 to 24"
                + ";holds g n d 23 to 24");
        Checks.told("one is left", last, 1, last.nobodys());
        Checks.told("the last of all", last, 5423, last.firstNobodys());
        PrayerWay things = Checks.fresh("land wide 2 high 1 law need;row ab;thing t;thing u" + plain("g", 0, 1)
                + ";holds g t a 0 to 24;holds g t b 0 to 23;holds g u a 5 to 6");
        Checks.told("things ahead of soils ahead of hours", things, 123, things.firstNobodys());
    }

    /** "A GOD HAS it if some LINE holds tells so of him": from its first hour up to the one ahead of its last. */
    private static void had() {
        int[][] spans = {{0, 1}, {0, 24}, {5, 9}, {22, 23}, {23, 24}};
        for (int[] span : spans) {
            PrayerWay way = Checks.fresh(HEAD + plain("g", 0, 1) + plain("h", 0, 1)
                    + ";holds h u b " + span[0] + " to " + span[1]);
            for (int hour = 0; hour < 24; hour++) {
                int has = hour >= span[0] && hour < span[1] ? 1 : 0;
                Checks.told("has at " + hour, way, has, way.has(1, 1, 1, hour));
                Checks.told("owners at " + hour, way, 2 * has, way.owners(1, 1, hour));
                Checks.told("another thing", way, 0, way.has(1, 0, 1, hour));
                Checks.told("another soil", way, 0, way.has(1, 1, 0, hour));
                Checks.told("another god", way, 0, way.has(0, 1, 1, hour));
            }
            Checks.told("many", way, span[1] - span[0], way.many(1));
            Checks.told("none", way, 0, way.many(0));
        }
        // The sixteenth line tells as the first does.
        PrayerWay way = Checks.fresh(HEAD + plain("g", 0, 1) + ";holds g t a 0 to 1".repeat(15) + ";holds g u b 23 to 24");
        Checks.told("two of them", way, 2, way.many(0));
        Checks.told("the last line's", way, 1, way.has(0, 1, 1, 23));
    }

    /** "SHARED: of two GODS the POINTS that both HAVE": none, some, all; six who have one. */
    private static void shared() {
        StringBuilder text = new StringBuilder(HEAD);
        for (char name = 'g'; name <= 'l'; name++) {
            text.append(plain(String.valueOf(name), 0, 1));
        }
        for (char name = 'g'; name <= 'l'; name++) {
            text.append(";holds ").append(name).append(" t a 4 to ").append(5 + name - 'g');
        }
        PrayerWay way = Checks.fresh(text.toString());
        Checks.told("all six", way, 63, way.owners(0, 0, 4));
        Checks.told("the last alone", way, 32, way.owners(0, 0, 9));
        Checks.told("disputed: all but the last's", way, 5, way.disputed());
        Checks.told("nobodys", way, 96 - 6, way.nobodys());
        Checks.told("the first and the last", way, 1, way.shared(0, 5));
        Checks.told("the last two", way, 5, way.shared(5, 4));
        Checks.told("none of another thing", way, 0, way.owners(1, 0, 4));
    }

    /** "IN: not ASLEEP, in his hours (from .. to less 1)"; "ASLEEP: by KIND, or put to sleep" */
    private static void in() {
        for (int[] span : new int[][] {{0, 1}, {0, 24}, {6, 12}, {23, 24}, {0, 23}, {1, 24}}) {
            PrayerWay way = Checks.fresh(HEAD + plain("g", span[0], span[1]) + god("h", "asleep", 0, 1, span[0], span[1])
                    + ";holds g t a 0 to 24;holds h u a 0 to 24");
            for (int hour = 0; hour < 24; hour++) {
                Checks.told("in at " + hour, way, hour >= span[0] && hour < span[1] ? 1 : 0, way.in(0, hour));
                Checks.told("asleep by kind at " + hour, way, 0, way.in(1, hour));
            }
            Checks.yes("put to sleep", way, way.sleep(0, true));
            for (int hour = 0; hour < 24; hour++) {
                Checks.told("put to sleep at " + hour, way, 0, way.in(0, hour));
            }
            Checks.told("he has what he has", way, 24, way.many(0));
            Checks.told("and so has he by kind", way, 24, way.many(1));
        }
    }

    // ---- the days

    /** "THE DAYS: hours 0 to 95, of the day by mod 24": the last hour of each day, and none behind the fourth. */
    private static void fourDays() {
        StringBuilder text = new StringBuilder(HEAD + plain("g", 23, 24) + ";holds g t a 0 to 24");
        for (char name = 'i'; name <= 'm'; name++) {
            text.append(prayer(String.valueOf(name), 23, "g", 23, 0));
        }
        PrayerWay way = Checks.fresh(text.toString());
        for (int p = 0; p < 4; p++) {
            way(way, p, 0, 23 + 24 * p, 0, 24 * p);
            Checks.told("late", way, p == 0 ? 0 : 1, way.late(p));
            Checks.told("queue behind", way, 4 - p, way.queue(0, 23 + 24 * p));
        }
        way(way, 4, 2, -2, 0, 73);
        Checks.told("a lost one isn't late", way, 0, way.late(4));
        Checks.told("none ahead of their start", way, 0, way.queue(0, 22));
        Checks.told("ahead of the last hour", way, 2, way.queue(0, 94));
        Checks.told("behind the last hour", way, 1, way.queue(0, 95));
        PrayerWay first = Checks.fresh(HEAD + plain("g", 0, 1) + ";holds g t a 0 to 24" + prayer("p", 0, "g", 0, 0)
                + prayer("q", 0, "g", 1, 0) + prayer("r", 0, "g", 1, 0) + prayer("s", 0, "g", 1, 0)
                + prayer("v", 0, "g", 1, 0));
        way(first, 0, 0, 0, 0, 0);
        way(first, 1, 0, 24, 0, 23);
        way(first, 2, 0, 48, 0, 47);
        way(first, 3, 0, 72, 0, 71);
        way(first, 4, 2, -2, 0, 95);
    }

    /** "first the PRAYERS that start then (0 .. 23) come to their GODS' altars" */
    private static void starts() {
        for (int start = 0; start < 24; start++) {
            PrayerWay way = Checks.fresh(HEAD + plain("g", 0, 24) + ";holds g t a 0 to 24" + prayer("p", start, "g", start, 0));
            way(way, 0, 0, start, 0, 0);
            Checks.told("in its own hour", way, 0, way.late(0));
            PrayerWay out = Checks.fresh(HEAD + plain("g", 0, 24) + ";holds g t a 0 to 24" + prayer("p", start, "g", start, 0));
            out.sleep(0, true);
            way(out, 0, 2, -2, 0, 96 - start);
            for (int hour = 0; hour < 96; hour++) {
                Checks.told("stands from its start on", out, hour >= start ? 1 : 0, out.queue(0, hour));
            }
        }
    }

    /** "as many as he serves an hour": from one to nine, of none up to eight. */
    private static void served() {
        for (int serves = 1; serves <= 9; serves++) {
            for (int prayers = 0; prayers <= 8; prayers++) {
                StringBuilder text = new StringBuilder(HEAD + god("g", "plain", 0, serves, 0, 24) + ";holds g t a 0 to 24");
                for (int p = 0; p < prayers; p++) {
                    text.append(prayer("p" + (char) ('a' + p), 0, "g", 0, 0));
                }
                PrayerWay way = Checks.fresh(text.toString());
                for (int p = 0; p < prayers; p++) {
                    Checks.told("when " + p + " of " + prayers + " by " + serves, way, p / serves, way.when(p));
                }
                Checks.told("behind the first hour", way, Math.max(0, prayers - serves), way.queue(0, 0));
                Checks.told("granted", way, prayers, way.law(0, 0));
            }
        }
    }

    /** "the greatest gift .. the greatest need; of like ones who came soonest, then the least number" */
    private static void laws() {
        String[] names = {"first", "gift", "need"};
        // gift, need, start of each; all are served behind hour 5, one an hour.
        int[][] prayers = {{0, 99, 2}, {99, 0, 3}, {99, 0, 2}, {98, 1, 0}, {98, 98, 5}, {0, 99, 2}};
        int[][] order = {{3, 0, 2, 5, 1, 4}, {2, 1, 3, 4, 0, 5}, {0, 5, 4, 3, 2, 1}};
        for (int law = 0; law < 3; law++) {
            StringBuilder text = new StringBuilder(HEAD.replace("law first", "law " + names[law]) + plain("g", 5, 24)
                    + ";holds g t a 0 to 24");
            for (int p = 0; p < prayers.length; p++) {
                text.append(";prayer p" + (char) ('a' + p) + " t at 0,0 hour 9 starts g " + prayers[p][2] + " gift "
                        + prayers[p][0] + " need " + prayers[p][1]);
            }
            PrayerWay way = Checks.fresh(text.toString());
            for (int i = 0; i < 6; i++) {
                Checks.told(names[law] + ": " + i, way, 5 + i, way.when(order[law][i]));
            }
            int late = 0;
            int waits = 0;
            for (int p = 0; p < 6; p++) {
                late += way.late(p);
                waits += way.waits(p);
            }
            Checks.due("late: above 9", 1, late);
            Checks.told("granted", way, 6, way.law(law, 0));
            Checks.told("late ones", way, late, way.law(law, 1));
            Checks.told("waits", way, waits, way.law(law, 2));
            Checks.told("dead ones", way, 0, way.law(law, 3));
        }
    }

    /** "its gift is his price or more" */
    private static void prices() {
        for (int price : new int[] {0, 1, 50, 99}) {
            for (int gift : new int[] {0, 1, 49, 50, 51, 98, 99}) {
                PrayerWay way = Checks.fresh(HEAD + god("g", "plain", price, 1, 0, 24) + ";holds g t a 0 to 24"
                        + prayer("p", 0, "g", 0, gift));
                Checks.told("gift " + gift + " for " + price, way, gift >= price ? 0 : 1, way.fate(0));
            }
        }
    }

    /** "if he HAS its POINT (its THING, the SOIL of its CELL, its hour)": its hour, not the one it is served in. */
    private static void pointDue() {
        for (int hour : new int[] {4, 5, 8, 9}) {
            PrayerWay way = Checks.fresh(HEAD + plain("g", 15, 16) + ";holds g t a 5 to 9;holds g u b 0 to 24"
                    + prayer("p", hour, "g", 0, 0));
            Checks.told("hour " + hour, way, hour >= 5 && hour < 9 ? 0 : 1, way.fate(0));
            Checks.told("served", way, 15, way.when(0));
        }
    }

    /** "proud: it was at no other's altar; jealous: it was at none's whom he bars" */
    private static void tempers() {
        String gods = HEAD + plain("g", 0, 24) + god("h", "proud", 0, 1, 0, 24) + god("i", "jealous", 0, 1, 0, 24);
        PrayerWay proud = Checks.fresh(gods + ";holds h t a 0 to 24;sends g t h;sends h t i"
                + prayer("p", 0, "h", 0, 0) + prayer("q", 0, "g", 0, 0));
        way(proud, 0, 0, 0, 1, 0);
        way(proud, 1, 1, 2, 2, 0);
        // Round and back to the proud one: he was ahead of the others, but they were too.
        PrayerWay round = Checks.fresh(HEAD + god("g", "proud", 9, 1, 0, 24) + plain("h", 0, 24) + ";holds g t a 0 to 24"
                + ";sends g t h;sends h t g" + prayer("p", 0, "g", 0, 8) + prayer("q", 0, "g", 5, 9));
        way(round, 0, 2, -2, 0, 0);
        way(round, 1, 0, 5, 0, 0);
        String jealous = gods + ";holds i t a 0 to 24;sends g t h;sends h t i";
        PrayerWay bars = Checks.fresh(jealous + ";bars i g" + prayer("p", 0, "g", 0, 0) + prayer("q", 0, "h", 5, 0));
        way(bars, 0, 1, 2, 2, 0);
        way(bars, 1, 0, 6, 2, 0);
        // That another bars him, or that he bars one who sends nothing here, is nothing to him.
        PrayerWay barred = Checks.fresh(jealous + ";bars g i" + prayer("p", 0, "g", 0, 0));
        way(barred, 0, 0, 2, 2, 0);
        // Plain and proud gods bar too, but only for sending.
        PrayerWay plain = Checks.fresh(HEAD + plain("g", 0, 24) + plain("h", 0, 24) + ";holds h t a 0 to 24;sends g t h"
                + ";bars h g" + prayer("p", 0, "g", 0, 0));
        way(plain, 0, 0, 1, 1, 0);
    }

    /** "there it comes in the next hour; if there is none such, or he bars him, it is DEAD" */
    private static void sent() {
        String gods = HEAD + plain("g", 0, 24) + plain("h", 0, 24) + plain("i", 0, 24) + ";holds h t a 0 to 24";
        PrayerWay up = Checks.fresh(gods + ";sends g t h" + prayer("p", 0, "g", 0, 0));
        way(up, 0, 0, 1, 1, 0);
        PrayerWay down = Checks.fresh(gods + ";sends i t h" + prayer("p", 0, "i", 0, 0));
        way(down, 0, 0, 1, 1, 0);
        Checks.told("on its way it stands nowhere", down, 0, down.queue(1, 0) + down.queue(2, 0));
        PrayerWay none = Checks.fresh(gods + ";sends g u h" + prayer("p", 0, "g", 0, 0));
        way(none, 0, 1, 0, 0, 0);
        PrayerWay bars = Checks.fresh(gods + ";sends g t h;bars g h" + prayer("p", 0, "g", 0, 0));
        way(bars, 0, 1, 0, 0, 0);
        Checks.told("one altar", bars, 1, bars.altars(0));
        PrayerWay barred = Checks.fresh(gods + ";sends g t h;bars h g" + prayer("p", 0, "g", 0, 0));
        way(barred, 0, 0, 1, 1, 0);
        Checks.told("sent and come", barred, 1, barred.altar(0, 1));
        Checks.told("first", barred, 0, barred.altar(0, 0));
        Checks.refused("no third", barred, 1, barred.altar(0, 2));
        // In hour 1 both are at h: he who came soonest, by number if like.
        PrayerWay both = Checks.fresh(gods + ";sends g t h" + prayer("p", 0, "h", 1, 0) + prayer("q", 0, "g", 0, 0));
        Checks.told("p first", both, 1, both.when(0));
        Checks.told("then q", both, 2, both.when(1));
        Checks.told("q waits", both, 1, both.waits(1));
    }

    /** "LOST: what is neither at the end of THE DAYS": served in the last hour, dead, granted, or sent on behind them. */
    private static void lastHour() {
        String chain = HEAD + plain("g", 0, 1) + plain("h", 0, 1) + plain("i", 0, 1) + ";sends g t h;sends h t i;sends i t j";
        String gods = chain.replace(";sends g", plain("j", 23, 24) + plain("k", 0, 24) + ";sends g");
        // g at 24, h at 48, i at 72, and j at 95.
        PrayerWay granted = Checks.fresh(gods + ";holds j t a 0 to 24" + prayer("p", 0, "g", 1, 0));
        way(granted, 0, 0, 95, 3, 23 + 23 + 23 + 22);
        Checks.told("alone as well", granted, 95, granted.alone(0, 0));
        Checks.told("late", granted, 1, granted.late(0));
        Checks.told("none stands behind it", granted, 0, granted.queue(3, 95));
        Checks.told("one stood", granted, 1, granted.queue(3, 94));
        PrayerWay dead = Checks.fresh(gods + prayer("p", 0, "g", 1, 0));
        way(dead, 0, 1, 95, 3, 91);
        Checks.told("not granted", dead, -2, dead.alone(0, 0));
        PrayerWay sent = Checks.fresh(gods + ";sends j t k;holds k t a 0 to 24" + prayer("p", 0, "g", 1, 0));
        way(sent, 0, 2, -2, 4, 91);
        Checks.told("sent in the last hour", sent, 5, sent.altars(0));
        Checks.told("to k", sent, 4, sent.altar(0, 4));
        Checks.told("but it stands nowhere", sent, 0, sent.queue(3, 95) + sent.queue(4, 95));
        Checks.told("not granted in time", sent, -2, sent.alone(0, 0));
        // An hour later with j it is too late.
        PrayerWay later = Checks.fresh(gods.replace("from 23 to 24", "from 0 to 1") + ";holds j t a 0 to 24"
                + prayer("p", 0, "g", 1, 0));
        way(later, 0, 2, -2, 3, 69 + 23);
        Checks.told("alone too", later, -2, later.alone(0, 0));
        Checks.told("one stands to the end", later, 1, later.queue(3, 95));
    }

    /** "LATE: GRANTED in an hour (0 .. 95) above its hour." */
    private static void late() {
        for (int hour = 0; hour < 24; hour++) {
            PrayerWay way = Checks.fresh(HEAD + plain("g", 12, 13) + ";holds g t a 0 to 24" + prayer("p", hour, "g", 12, 0)
                    + prayer("q", hour, "g", 13, 0));
            Checks.told("at 12 for " + hour, way, 12 > hour ? 1 : 0, way.late(0));
            Checks.told("at 36 for " + hour, way, 1, way.late(1));
            Checks.told("late ones", way, way.late(0) + 1, way.law(0, 1));
        }
        PrayerWay dead = Checks.fresh(HEAD + plain("g", 12, 13) + prayer("p", 3, "g", 0, 0));
        Checks.told("a dead one isn't", dead, 0, dead.late(0));
    }

    /** "WAIT of a PRAYER: all hours from coming to an altar to being served there .. together" */
    private static void waits() {
        PrayerWay way = Checks.fresh(HEAD + plain("g", 3, 4) + plain("h", 9, 10) + plain("i", 2, 3) + ";sends g t h;sends h t i"
                + ";holds i t a 0 to 24" + prayer("p", 0, "g", 0, 0) + prayer("q", 0, "g", 3, 0) + prayer("r", 0, "g", 4, 0));
        // p: g at 3, comes to h at 4, there at 9, comes to i at 10, there at 26.
        way(way, 0, 0, 26, 2, 3 + 5 + 16);
        // q: g at 27, h at 33, i at 50.
        way(way, 1, 0, 50, 2, 24 + 5 + 16);
        // r: g at 51, h at 57, i at 74.
        way(way, 2, 0, 74, 2, 47 + 5 + 16);
        Checks.told("all together", way, 24 + 45 + 68, way.law(0, 2));
        way.sleep(2, true);
        way(way, 0, 2, -2, 2, 8 + 86);
        way(way, 2, 2, -2, 2, 52 + 38);
    }

    /** What is asked again behind an act, an undo, or a law tried, is told anew, and as it was if nothing changed. */
    private static void again() {
        PrayerWay way = Checks.fresh(HEAD + plain("g", 3, 4) + plain("h", 9, 10) + ";sends g t h;holds h t a 0 to 24"
                + prayer("p", 0, "g", 0, 0) + prayer("q", 0, "h", 5, 0));
        for (int i = 0; i < 3; i++) {
            Checks.told("g's queue", way, 1, way.queue(0, 2));
            Checks.told("h's queue", way, 2, way.queue(1, 8));
            Checks.told("altars", way, 2, way.altars(0));
            Checks.told("waits", way, 3 + 5, way.waits(0));
            Checks.told("waits", way, 4 + 24, way.waits(1));
            Checks.told("alone", way, 9, way.alone(0, 1));
            Checks.told("law", way, 8 + 28, way.law(1, 2));
            Checks.yes("h sleeps", way, way.sleep(1, true));
            Checks.told("h's queue", way, 2, way.queue(1, 95));
            Checks.told("waits", way, 3 + 92, way.waits(0));
            Checks.told("altars", way, 2, way.altars(0));
            Checks.yes("g sends none", way, way.send(0, 0, -2));
            Checks.told("g's queue", way, 1, way.queue(0, 2));
            Checks.told("h's queue", way, 1, way.queue(1, 95));
            Checks.told("altars", way, 1, way.altars(0));
            Checks.refused("no second altar", way, 1, way.altar(0, 1));
            Checks.told("waits", way, 3, way.waits(0));
            Checks.yes("undo", way, way.undo());
            Checks.yes("undo", way, way.undo());
        }
    }

    /** Eight at once who are lost, each with its own wait: none is left out. */
    private static void eightLost() {
        StringBuilder text = new StringBuilder(HEAD + god("g", "asleep", 0, 9, 0, 24));
        int sum = 0;
        for (int p = 0; p < 8; p++) {
            text.append(prayer("p" + (char) ('a' + p), 0, "g", 3 * p, 0));
            sum += 96 - 3 * p;
        }
        PrayerWay way = Checks.fresh(text.toString());
        for (int p = 0; p < 8; p++) {
            way(way, p, 2, -2, 0, 96 - 3 * p);
            Checks.told("one altar", way, 1, way.altars(p));
        }
        for (int law = 0; law < 3; law++) {
            Checks.told("all waits", way, sum, way.law(law, 2));
            Checks.told("none granted, late, or dead", way, 0, way.law(law, 0) + way.law(law, 1) + way.law(law, 3));
        }
        Checks.told("all eight stand to the end", way, 8, way.queue(0, 95));
    }

    /** Eight at once who go round without a rest: each comes to an altar in every hour, and to one behind the last. */
    private static void eightRound() {
        StringBuilder text = new StringBuilder(HEAD + god("g", "plain", 0, 9, 0, 24) + god("h", "plain", 0, 9, 0, 24)
                + ";sends g t h;sends h t g");
        for (int p = 0; p < 8; p++) {
            text.append(prayer("p" + (char) ('a' + p), 0, p % 2 == 0 ? "g" : "h", 0, 0));
        }
        PrayerWay way = Checks.fresh(text.toString());
        for (int p = 0; p < 8; p++) {
            way(way, p, 2, -2, p % 2, 0);
            Checks.told("altars", way, 97, way.altars(p));
            Checks.told("the first", way, p % 2, way.altar(p, 0));
            Checks.told("the second", way, 1 - p % 2, way.altar(p, 1));
            Checks.told("the last but one", way, 1 - p % 2, way.altar(p, 95));
            Checks.told("the last", way, p % 2, way.altar(p, 96));
            Checks.refused("none more", way, 1, way.altar(p, 97));
        }
        Checks.told("none stands behind the last hour", way, 0, way.queue(0, 95) + way.queue(1, 95));
    }

    /** No prayers, no grants: nothing is added up, nothing stands. */
    private static void noPrayers() {
        PrayerWay way = Checks.fresh(HEAD + plain("g", 0, 24));
        for (int law = 0; law < 3; law++) {
            for (int what = 0; what < 4; what++) {
                Checks.told("law " + law + ", " + what, way, 0, way.law(law, what));
            }
        }
        Checks.told("queue", way, 0, way.queue(0, 0) + way.queue(0, 95));
        Checks.refused("no prayer", way, 1, way.fate(0));
        Checks.noLed("nothing is granted", way, 0);
    }

    public static void main(String[] args) {
        cells();
        points();
        lastPoint();
        had();
        shared();
        in();
        fourDays();
        starts();
        served();
        laws();
        prices();
        pointDue();
        tempers();
        sent();
        lastHour();
        late();
        waits();
        again();
        eightLost();
        eightRound();
        noPrayers();
        Checks.end("DaysBoundsTest");
    }
}
