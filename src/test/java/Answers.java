import java.util.NoSuchElementException;

/** All that an object tells, as one text: two of them are alike if nothing has changed. */
final class Answers {
    private final StringBuilder all = new StringBuilder();
    private final PrayerWay way;

    private Answers(PrayerWay way) {
        this.way = way;
    }

    /** What is told now; it leaves all but TROUBLE as it is. Stays under 300 calls for a land of three gods. */
    static String now(PrayerWay way) {
        Answers answers = new Answers(way);
        answers.sizes();
        answers.told();
        answers.points();
        answers.prayers();
        answers.rest();
        return answers.all.toString();
    }

    /** What can be undone, gone back to and read from THE TAPE: it changes the object, and comes last. */
    static String past(PrayerWay way) {
        Answers answers = new Answers(way);
        for (int i = 0; way.undo() && i < 20; i++) {
            answers.put("undone", i);
            answers.state();
        }
        for (int mark = 0; way.back(mark) && mark < 4; mark++) {
            answers.put("back", mark);
            answers.state();
        }
        answers.put("tape", way.land(way.size(14)));
        answers.put("fault", way.fault());
        answers.put("where", way.where());
        answers.sizes();
        return answers.all.toString();
    }

    private void put(String call, int answer) {
        all.append(call).append(' ').append(answer).append('\n');
    }

    private void sizes() {
        for (int what = 0; what <= 14; what++) {
            put("size " + what, way.size(what));
        }
        put("fault", way.fault());
    }

    private void state() {
        put("seed", way.size(11));
        for (int god = 0; god < way.size(4); god++) {
            put("price", way.god(god, 1));
            put("asleep", way.god(god, 5));
            for (int thing = 0; thing < way.size(3); thing++) {
                put("sends", way.sends(god, thing));
            }
        }
        for (int village = 0; village < way.size(8); village++) {
            put("saint", way.village(village, 1));
        }
    }

    private void told() {
        for (int god = 0; god < way.size(4); god++) {
            for (int what = 0; what < 6; what++) {
                put("god " + what, way.god(god, what));
            }
            for (int thing = 0; thing < way.size(3); thing++) {
                put("sends", way.sends(god, thing));
            }
            for (int other = 0; other < way.size(4); other++) {
                put("bars", way.bars(god, other));
            }
        }
        for (int prayer = 0; prayer < way.size(6); prayer++) {
            for (int what = 0; what < 7; what++) {
                put("prayer " + what, way.prayer(prayer, what));
            }
        }
        for (int village = 0; village < way.size(8); village++) {
            put("cell", way.village(village, 0));
            put("saint", way.village(village, 1));
        }
    }

    private void points() {
        for (int x = 0; x < way.size(0); x++) {
            for (int y = 0; y < way.size(1); y++) {
                put("soil", way.soil(x, y));
            }
        }
        for (int thing = 0; thing < way.size(3); thing++) {
            for (int soil = 0; soil < 5; soil++) {
                put("owners at 0", way.owners(thing, soil, 0));
                put("owners at 23", way.owners(thing, soil, 23));
            }
        }
        put("points", way.points());
        put("nobodys", way.nobodys());
        put("firstNobodys", way.firstNobodys());
        put("disputed", way.disputed());
        for (int god = 0; god < way.size(4); god++) {
            put("many", way.many(god));
            put("in at 0", way.in(god, 0));
            put("in at 23", way.in(god, 23));
            put("queue behind 95", way.queue(god, 95));
        }
    }

    private void prayers() {
        for (int prayer = 0; prayer < way.size(6); prayer++) {
            put("fate", way.fate(prayer));
            put("when", way.when(prayer));
            put("whom", way.whom(prayer));
            put("waits", way.waits(prayer));
            put("altars", way.altars(prayer));
            put("late", way.late(prayer));
            put("start", way.start(prayer));
            put("ring", way.ring(prayer));
            put("led", led(prayer));
        }
        for (int law = 0; law < 3; law++) {
            put("law " + law, way.law(law, 2));
        }
    }

    private int led(int i) {
        try {
            return way.led(i);
        } catch (NoSuchElementException e) {
            return -9;
        }
    }

    private void rest() {
        put("together", way.together());
        put("offended", way.offended());
        put("keep", way.keep());
        put("once", way.once());
        for (int village = 0; village < way.size(8); village++) {
            put("content", way.content(village));
            put("saint due", way.saint(village));
        }
        put("rest", way.rest());
        put("rests", way.rests());
        put("left", way.left());
        put("ends", way.ends(0) + way.ends(1) + way.ends(2));
        put("fits", way.fits());
        put("ask", way.ask());
        put("askMost", way.askMost());
    }
}
