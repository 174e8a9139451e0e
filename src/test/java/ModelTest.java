import java.util.ArrayDeque;
import java.util.ArrayList;
import java.util.Deque;
import java.util.List;
import java.util.Random;
import java.util.TreeSet;

/** Lands by draws, whole and broken, compared with the model in all that can be asked. */
public final class ModelTest {
    private static final int LANDS = 250;
    private static final int BROKEN = 6000;

    private final Random random;

    private ModelTest(long seed) {
        random = new Random(seed);
    }

    private int under(int n) {
        return random.nextInt(n);
    }

    private String pick(String... words) {
        return words[under(words.length)];
    }

    private String hours() {
        int from = under(4) == 0 ? 0 : under(24);
        int to = under(4) == 0 ? 24 : from + 1 + under(24 - from);
        return from + " to " + to;
    }

    private String text() {
        int wide = 2 + under(5);
        int high = 1 + under(4);
        String soils = "abcde".substring(0, 1 + under(5));
        List<String> lines = new ArrayList<>();
        int things = 1 + under(under(3) == 0 ? 6 : 2);
        int gods = 1 + under(6);
        int prayers = under(9);
        int villages = under(under(2) == 0 ? 5 : 3);
        for (int i = 0; i < high; i++) {
            StringBuilder row = new StringBuilder("row ");
            for (int x = 0; x < wide; x++) {
                row.append(soils.charAt(under(soils.length())));
            }
            lines.add(row.toString());
        }
        for (int i = 0; i < things; i++) {
            lines.add("thing t" + (char) ('a' + i));
        }
        for (int i = 0; i < gods; i++) {
            lines.add("god g" + (char) ('a' + i) + " " + pick("plain", "plain", "proud", "jealous", "asleep") + " price "
                    + (under(2) == 0 ? 0 : under(100)) + " serves " + (1 + under(2) * under(9)) + " from " + hours());
        }
        if (under(3) > 0) {
            lines.add("luck " + under(100));
        }
        for (int i = under(17); i > 0; i--) {
            lines.add("holds " + god(gods) + " " + (under(3) == 0 ? "any" : thing(things)) + " "
                    + pick("a", "b", "c", "d", "e", "any", "any") + " " + hours());
        }
        once(lines, "sends", under(13), gods, things);
        once(lines, "bars", under(3) == 0 ? under(7) : under(2), gods, things);
        for (int i = 0; i < prayers; i++) {
            lines.add("prayer p" + (char) ('a' + i) + " " + thing(things) + " at " + under(wide) + "," + under(high)
                    + " hour " + under(24) + " starts " + god(gods) + " " + under(24) + " gift " + under(100) + " need "
                    + under(4));
        }
        clashes(lines, prayers);
        for (int i = 0; i < villages; i++) {
            lines.add("village v" + (char) ('a' + i) + " at " + under(wide) + "," + under(high) + " saint " + god(gods));
        }
        for (int i = under(7); i > 0; i--) {
            lines.add("spell " + pick("adds", "takes", "times", "shares") + " " + (1 + under(9)));
        }
        for (int i = under(2) * under(5); i > 0; i--) {
            lines.add("saw " + thing(things) + " " + pick("a", "b", "c", "d", "e") + " " + under(24) + " " + pick("yes", "no"));
        }
        String all = "land wide " + wide + " high " + high + " law " + pick("first", "gift", "need");
        for (String line : lines) {
            if (all.length() + line.length() > 1190) {
                break;
            }
            all += pick(";", ";", " ; ") + line;
        }
        return all;
    }

    private String god(int gods) {
        return "g" + (char) ('a' + under(gods));
    }

    private String thing(int things) {
        return "t" + (char) ('a' + under(things));
    }

    private void once(List<String> lines, String word, int n, int gods, int things) {
        TreeSet<String> had = new TreeSet<>();
        for (int i = 0; i < n; i++) {
            String from = god(gods);
            String to = god(gods);
            String what = word.equals("sends") ? thing(things) : to;
            if (!from.equals(to) && had.add(from + what)) {
                lines.add(word + " " + from + " " + (word.equals("sends") ? what + " " : "") + to);
            }
        }
    }

    private void clashes(List<String> lines, int prayers) {
        TreeSet<Integer> had = new TreeSet<>();
        for (int i = under(9); i > 0 && prayers > 1; i--) {
            int p = under(prayers);
            int q = under(prayers);
            if (p != q && had.add(1 << p | 1 << q)) {
                lines.add("clash p" + (char) ('a' + p) + " p" + (char) ('a' + q));
            }
        }
    }

    private String broken(String text) {
        StringBuilder other = new StringBuilder(text);
        String[] words = ("land row thing luck god holds sends bars prayer clash village spell saw any wide high law first"
                + " gift need plain proud jealous asleep price serves from to at hour starts saint adds takes times shares"
                + " yes no a b c d e f ta tb ga gb pa pb va 0 1 2 3 5 7 9 10 23 24 25 99 100 999 1000 ; , # abcdefgh"
                + " abcdefghi aaaa A").split(" ");
        for (int n = 1 + under(2); n > 0; n--) {
            int at = under(other.length() + 1);
            switch (under(14)) {
                case 0 -> other.setLength(at);
                case 1 -> other.insert(at, pick(words));
                case 2 -> other.insert(at, " " + pick(words) + " ");
                case 3 -> other.delete(at, Math.min(other.length(), at + 1 + under(6)));
                case 4, 5, 6 -> repeat(other);
                default -> exchange(other, words);
            }
        }
        if (other.length() > 1200) {
            other.setLength(1200);
        }
        return other.toString();
    }

    /** A line told again, once or often, at some line's end. */
    private void repeat(StringBuilder text) {
        String[] lines = text.toString().split(";");
        String line = pick(lines);
        int at = text.indexOf(";", under(text.length() + 1));
        for (int n = under(4) == 0 ? 12 : 1; n > 0; n--) {
            text.insert(at < 0 ? text.length() : at, ";" + line);
        }
    }

    /** One token for another: what breaks a text most finely. */
    private void exchange(StringBuilder text, String[] words) {
        int at = under(text.length() + 1);
        while (at > 0 && Character.isLetterOrDigit(text.charAt(at - 1))) {
            at--;
        }
        int end = at;
        while (end < text.length() && Character.isLetterOrDigit(text.charAt(end))) {
            end++;
        }
        String word = pick(words);
        boolean number = end > at && Character.isDigit(text.charAt(at));
        for (int i = 0; i < 50 && end > at && Character.isDigit(word.charAt(0)) != number; i++) {
            word = pick(words);
        }
        text.replace(at, end, word);
    }

    private static int compareText(String text) {
        PrayerWay way = new PrayerWay();
        Model model = new Model(text);
        int got = Checks.land(way, text);
        Checks.due("gods of " + text, model.fault == 0 ? model.gods() : -1, got);
        Checks.due("fault of " + text, model.fault, way.fault());
        Checks.due("where of " + text, model.fault == 0 ? -1 : model.where, way.where());
        return model.fault;
    }

    private static void compareOwners(String t, PrayerWay w, Model m) {
        for (int thing = 0; thing < m.things(); thing++) {
            for (int soil = 0; soil < 5; soil++) {
                for (int hour = 0; hour < 24; hour += 1) {
                    Checks.due("owners" + t, m.owners(thing, soil, hour), w.owners(thing, soil, hour));
                    Checks.due("has" + t, m.has(0, thing, soil, hour) ? 1 : 0, w.has(0, thing, soil, hour));
                }
            }
        }
        for (int x = 0; x < m.wide(); x++) {
            for (int y = 0; y < m.high(); y++) {
                Checks.due("soil" + t, m.soil(x, y), w.soil(x, y));
            }
        }
        List<Integer> points = m.points();
        Checks.due("points" + t, points.size(), w.points());
        int nobodys = 0;
        int first = -2;
        int disputed = 0;
        for (int point : points) {
            int owners = Integer.bitCount(m.owners(point / 1000, point / 100 % 10, point % 100));
            first = owners == 0 && first == -2 ? point : first;
            nobodys += owners == 0 ? 1 : 0;
            disputed += owners > 1 ? 1 : 0;
        }
        Checks.due("nobodys" + t, nobodys, w.nobodys());
        Checks.due("firstNobodys" + t, first, w.firstNobodys());
        Checks.due("disputed" + t, disputed, w.disputed());
        for (int god = 0; god < m.gods(); god++) {
            Checks.due("many" + t, m.held(god).size(), w.many(god));
            for (int other = 0; other < m.gods(); other++) {
                TreeSet<Integer> both = new TreeSet<>(m.held(god));
                both.retainAll(m.held(other));
                Checks.due("shared" + t, god == other ? -1 : both.size(), w.shared(god, other));
                Checks.due("bars" + t, god == other ? -1 : m.bars(god, other) ? 1 : 0, w.bars(god, other));
            }
        }
        Checks.due("keep" + t, m.keep(false), w.keep());
        Checks.due("once" + t, m.keep(true), w.once());
        Checks.due("left" + t, m.left(), w.left());
        TreeSet<Integer> ends = m.ends(m.luck(), m.lines.get("spell"));
        Checks.due("ends 0" + t, ends.size(), w.ends(0));
        Checks.due("ends 1" + t, ends.first(), w.ends(1));
        Checks.due("ends 2" + t, ends.last(), w.ends(2));
        int fits = m.fits().stream().mapToInt(g -> 1 << g).sum();
        Checks.due("fits" + t, fits, w.fits());
        boolean few = m.fits().size() < 2;
        Checks.due("ask" + t, few ? -1 : m.ask(), w.ask());
        Checks.due("ask, trouble" + t, few ? 6 : 0, w.trouble());
        Checks.due("askMost" + t, few ? -1 : m.behind(m.ask()), w.askMost());
    }

    private static void compareWays(String t, PrayerWay w, Model m) {
        List<Model.Way> ways = m.days(m.law(), -1, -1);
        int granted = 0;
        for (int p = 0; p < m.prayers(); p++) {
            Model.Way way = ways.get(p);
            Checks.due("fate " + p + t, way.fate, w.fate(p));
            Checks.due("when " + p + t, way.when, w.when(p));
            Checks.due("whom " + p + t, way.whom(), w.whom(p));
            Checks.due("waits " + p + t, way.waits, w.waits(p));
            Checks.due("altars " + p + t, way.altars.size(), w.altars(p));
            for (int i = 0; i < way.altars.size(); i++) {
                Checks.due("altar " + p + ", " + i + t, way.altars.get(i), w.altar(p, i));
            }
            Checks.due("late " + p + t, way.late() ? 1 : 0, w.late(p));
            Checks.due("ring " + p + t, m.ring(p), w.ring(p));
            if (way.fate == 0) {
                Checks.due("led " + granted + t, p, w.led(granted));
                granted++;
            }
        }
        Checks.noLed("led " + granted + t, w, granted);
        for (int god = 0; god < m.gods(); god++) {
            for (int hour = 0; hour < 96; hour++) {
                Checks.due("queue " + god + ", " + hour + t, m.queues[god][hour], w.queue(god, hour));
            }
            for (int hour = 0; hour < 24; hour++) {
                Checks.due("in" + t, m.in(god, hour) ? 1 : 0, w.in(god, hour));
            }
        }
        Checks.due("together" + t, m.together(ways), w.together());
        Checks.due("offended" + t, m.offended(ways), w.offended());
    }

    private static void compareTrials(String t, PrayerWay w, Model m) {
        for (int law = 0; law < 3; law++) {
            List<Model.Way> others = m.days(law, -1, -1);
            Checks.due("law granted" + t, others.stream().filter(o -> o.fate == 0).count(), w.law(law, 0));
            Checks.due("law late" + t, others.stream().filter(Model.Way::late).count(), w.law(law, 1));
            Checks.due("law waits" + t, others.stream().mapToInt(o -> o.waits).sum(), w.law(law, 2));
            Checks.due("law dead" + t, others.stream().filter(o -> o.fate == 1).count(), w.law(law, 3));
        }
        for (int p = 0; p < m.prayers(); p++) {
            Checks.due("start " + p + t, m.start(p), w.start(p));
            for (int god = 0; god < m.gods(); god++) {
                Checks.due("alone " + p + ", " + god + t, m.alone(p, god), w.alone(p, god));
            }
        }
    }

    private static void compareVillages(String t, PrayerWay w, Model m, boolean all) {
        for (int v = 0; v < m.saints.length; v++) {
            Checks.due("content" + t, m.content(v, m.saints), w.content(v));
            Checks.due("saint" + t, m.saint(v, m.saints), w.saint(v));
            Checks.due("village" + t, m.saints[v], w.village(v, 1));
        }
        Checks.due("rest" + t, m.rest(m.saints) ? 1 : 0, w.rest());
        if (all && m.saints.length < 3) {
            Checks.due("rests" + t, m.rests(m.saints.clone(), 0), w.rests());
        }
    }

    private static void compareState(String t, PrayerWay w, Model m, int acts, int marks) {
        for (int god = 0; god < m.gods(); god++) {
            Checks.due("price" + t, m.prices[god], w.god(god, 1));
            Checks.due("asleep" + t, m.asleep(god) ? 1 : 0, w.god(god, 5));
            for (int thing = 0; thing < m.things(); thing++) {
                Checks.due("sends" + t, m.sendings[god][thing], w.sends(god, thing));
            }
        }
        Checks.due("seed" + t, m.seed, w.size(11));
        Checks.due("acts" + t, acts, w.size(12));
        Checks.due("marks" + t, marks, w.size(13));
    }

    /** One act by draws on both; whether it was one to be kept. */
    private boolean act(PrayerWay w, Model m, String t) {
        int god = under(m.gods());
        switch (under(5)) {
            case 0: {
                boolean is = under(2) == 0;
                boolean due = m.lulled.contains(god) != is;
                Checks.due("sleep" + t, due ? 1 : 0, w.sleep(god, is) ? 1 : 0);
                toggle(m, god, due);
                return due;
            }
            case 1:
                m.seed = (75 * m.seed + 74) % 65537;
                toggle(m, m.seed % m.gods(), true);
                Checks.due("age" + t, m.seed % m.gods(), w.age());
                return true;
            case 2: {
                int price = under(10) * 11;
                boolean due = m.prices[god] != price;
                Checks.due("price" + t, due ? 1 : 0, w.price(god, price) ? 1 : 0);
                m.prices[god] = price;
                return due;
            }
            case 3: {
                int thing = under(m.things());
                int other = under(3) == 0 ? -2 : under(m.gods());
                boolean due = other != god && m.sendings[god][thing] != other;
                Checks.due("send" + t, due ? 1 : 0, w.send(god, thing, other) ? 1 : 0);
                m.sendings[god][thing] = due ? other : m.sendings[god][thing];
                return due;
            }
            default: {
                int village = under(4);
                boolean due = village < m.saints.length && m.saints[village] != god;
                Checks.due("changes" + t, due ? 1 : 0, w.changes(village, god) ? 1 : 0);
                if (due) {
                    m.saints[village] = god;
                }
                return due;
            }
        }
    }

    private static void toggle(Model m, int god, boolean is) {
        if (is && !m.lulled.remove(god)) {
            m.lulled.add(god);
        }
    }

    private void compareLand(PrayerWay way, String text) {
        Checks.due("land again: " + text, 1, Checks.land(way, text) > 0 ? 1 : 0);
        Model model = new Model(text);
        Deque<Object[]> kept = new ArrayDeque<>();
        List<Object[]> marks = new ArrayList<>();
        compareOwners(" of " + text, way, model);
        for (int i = 0; i < 30; i++) {
            String t = " behind " + i + " of " + text;
            if (i % 6 == 0) {
                compareTrials(t, way, model);
                compareVillages(t, way, model, i % 12 == 0);
            }
            compareWays(t, way, model);
            compareState(t, way, model, kept.size(), marks.size());
            step(t, way, model, kept, marks);
        }
    }

    private void step(String t, PrayerWay way, Model model, Deque<Object[]> kept, List<Object[]> marks) {
        int what = under(14);
        if (what < 9) {
            Object[] ahead = model.state();
            if (act(way, model, t)) {
                kept.addLast(ahead);
                if (kept.size() > 12) {
                    kept.removeFirst();
                }
            }
        } else if (what < 11) {
            Checks.due("undo" + t, kept.isEmpty() ? 0 : 1, way.undo() ? 1 : 0);
            if (!kept.isEmpty()) {
                model.restore(kept.removeLast());
            }
        } else if (what == 11) {
            Checks.due("mark" + t, marks.size() < 3 ? marks.size() : -1, way.mark());
            if (marks.size() < 3) {
                marks.add(model.state());
            }
        } else if (what == 12) {
            int mark = under(3);
            Checks.due("back" + t, mark < marks.size() ? 1 : 0, way.back(mark) ? 1 : 0);
            if (mark < marks.size()) {
                model.restore(marks.get(mark));
                kept.clear();
            }
        } else {
            model.seed = under(65537);
            Checks.due("seed" + t, 1, way.seed(model.seed) ? 1 : 0);
        }
    }

    public static void main(String[] args) {
        long first = args.length > 0 ? Long.parseLong(args[0]) : 1;
        int times = args.length > 1 ? Integer.parseInt(args[1]) : 1;
        int[] faults = new int[8];
        PrayerWay way = new PrayerWay();
        for (int i = 0; i < LANDS * times; i++) {
            ModelTest test = new ModelTest(first * 1000003 + i);
            String text = test.text();
            Checks.due("no fault of " + text, 0, compareText(text));
            // One object goes from land to land, with a broken text now and then: nothing of the old may stay.
            if (i % 10 == 0) {
                way = new PrayerWay();
            } else if (i % 3 == 0) {
                Checks.land(way, test.broken(text));
            }
            test.compareLand(way, text);
        }
        for (int i = 0; i < BROKEN * times; i++) {
            ModelTest test = new ModelTest(first * 7000003 + i);
            faults[compareText(test.broken(test.text()))]++;
        }
        StringBuilder seen = new StringBuilder("ModelTest: texts by fault:");
        for (int fault : faults) {
            seen.append(' ').append(fault);
        }
        System.out.println(seen);
        Checks.end("ModelTest");
    }
}
