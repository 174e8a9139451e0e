import java.util.ArrayList;
import java.util.Arrays;
import java.util.Comparator;
import java.util.HashMap;
import java.util.HashSet;
import java.util.LinkedHashSet;
import java.util.List;
import java.util.Map;
import java.util.Set;
import java.util.TreeSet;
import java.util.regex.Matcher;
import java.util.regex.Pattern;

/**
 * The document once more, written otherwise: the text by templates over a list of all tokens, all
 * else straight from its lines with sets and lists. Only for comparing.
 */
final class Model {
    private static final Map<String, String> TEMPLATES = new HashMap<>();
    private static final Map<String, Integer> ROOM = new HashMap<>();

    static {
        template("land", 1, "wide #2:6 high #1:4 law first|gift|need");
        template("row", 99, "ROW");
        template("thing", 6, "NEW");
        template("luck", 1, "#0:99");
        template("god", 6, "NEW plain|proud|jealous|asleep price #0:99 serves #1:9 from #0:23 to #up:24");
        template("holds", 16, "@god @thing? SOIL? #0:23 to #up:24");
        template("sends", 12, "@god @thing~ @god!");
        template("bars", 6, "@god @god!");
        template("prayer", 8, "NEW @thing at #0:x , #0:y hour #0:23 starts @god #0:23 gift #0:99 need #0:99");
        template("clash", 8, "@prayer @prayer!");
        template("village", 4, "NEW at #0:x , #0:y saint @god");
        template("spell", 6, "adds|takes|times|shares #1:9");
        template("saw", 8, "@thing SOIL #0:23 yes|no");
    }

    private static void template(String word, int room, String template) {
        TEMPLATES.put(word, template);
        ROOM.put(word, room);
    }

    int fault;
    int where;
    final Map<String, List<int[]>> lines = new HashMap<>();
    private final List<String> tokens = new ArrayList<>();
    private final List<Integer> places = new ArrayList<>();
    private final Map<String, String> sortOf = new HashMap<>();
    private final Map<String, Integer> numberOf = new HashMap<>();
    private final List<String> rows = new ArrayList<>();

    // What acts change.
    Set<Integer> lulled = new TreeSet<>();
    int[] prices;
    int[][] sendings;
    int[] saints;
    int seed;

    Model(String text) {
        for (String word : TEMPLATES.keySet()) {
            lines.put(word, new ArrayList<>());
        }
        tokenise(text);
        read();
        if (fault == 0) {
            begin();
        }
    }

    private void tokenise(String text) {
        Matcher matcher = Pattern.compile("[a-z]+|[0-9]+|[^ ]").matcher(text);
        while (matcher.find()) {
            tokens.add(matcher.group());
            places.add(matcher.start());
        }
        tokens.add("");
        places.add(text.length());
    }

    private boolean fail(int number, int at) {
        fault = number;
        where = places.get(at);
        return false;
    }

    private static boolean isWord(String token) {
        return token.matches("[a-z]{1,8}");
    }

    private static boolean isName(String token) {
        return isWord(token) && !token.equals("any") && !TEMPLATES.containsKey(token);
    }

    private void read() {
        int at = 0;
        while (true) {
            String word = tokens.get(at);
            if (!TEMPLATES.containsKey(word)) {
                fail(1, at);
                return;
            }
            int had = lines.get(word).size();
            if (lines.get("land").isEmpty() && !word.equals("land")) {
                fail(6, at);
                return;
            }
            int room = word.equals("row") ? lines.get("land").get(0)[1] : ROOM.get(word);
            if (had >= room) {
                fail(word.equals("land") || word.equals("luck") ? 3 : 5, at);
                return;
            }
            String[] parts = TEMPLATES.get(word).split(" ");
            int[] values = new int[parts.length];
            for (int i = 0; i < parts.length; i++) {
                if (!part(word, parts[i], at + 1 + i, values, i)) {
                    return;
                }
            }
            at += 1 + parts.length;
            lines.get(word).add(Arrays.stream(values).filter(v -> v != -9).toArray());
            if (tokens.get(at).isEmpty()) {
                if (rows.size() < high() || things() == 0 || gods() == 0) {
                    fail(6, at);
                }
                return;
            }
            if (!tokens.get(at).equals(";")) {
                fail(1, at);
                return;
            }
            at++;
        }
    }

    private boolean part(String line, String part, int at, int[] values, int i) {
        String token = tokens.get(at);
        values[i] = -9;
        if (part.equals(",")) {
            return token.equals(",") || fail(1, at);
        }
        if (part.startsWith("#")) {
            return whole(part.substring(1).split(":"), token, at, values, i);
        }
        if (!isWord(token)) {
            return fail(1, at);
        }
        if (part.equals("ROW")) {
            if (!token.matches("[a-e]{" + wide() + "}")) {
                return fail(7, at);
            }
            rows.add(token);
            return true;
        }
        if (part.startsWith("SOIL")) {
            boolean any = part.endsWith("?") && token.equals("any");
            if (!any && !token.matches("[a-e]")) {
                return fail(7, at);
            }
            values[i] = any ? -2 : token.charAt(0) - 'a';
            return true;
        }
        if (part.equals("NEW") || part.startsWith("@")) {
            return name(line, part, at, values, i);
        }
        List<String> choices = List.of(part.split("\\|"));
        if (!choices.contains(token)) {
            return fail(1, at);
        }
        values[i] = choices.size() == 1 ? -9 : choices.indexOf(token);
        return true;
    }

    private boolean whole(String[] bounds, String token, int at, int[] values, int i) {
        if (!token.matches("[0-9]{1,3}")) {
            return fail(1, at);
        }
        int low = 0;
        if (bounds[0].equals("up")) {
            for (int j = i - 1; j >= 0 && low == 0; j--) {
                low = values[j] != -9 ? values[j] + 1 : 0;
            }
        } else {
            low = Integer.parseInt(bounds[0]);
        }
        int high = bounds[1].equals("x") ? wide() - 1 : bounds[1].equals("y") ? high() - 1 : Integer.parseInt(bounds[1]);
        values[i] = Integer.parseInt(token);
        return values[i] >= low && values[i] <= high || fail(4, at);
    }

    private boolean name(String line, String part, int at, int[] values, int i) {
        String token = tokens.get(at);
        if (part.endsWith("?") && token.equals("any")) {
            values[i] = -2;
            return true;
        }
        if (!isName(token)) {
            return fail(1, at);
        }
        if (part.equals("NEW")) {
            if (sortOf.containsKey(token)) {
                return fail(3, at);
            }
            sortOf.put(token, line);
            numberOf.put(token, lines.get(line).size());
            return true;
        }
        if (!part.replaceAll("\\W", "").equals(sortOf.get(token)) || isUnfinished(line, token)) {
            return fail(2, at);
        }
        values[i] = numberOf.get(token);
        int first = values[0];
        int now = values[i];
        boolean again = part.endsWith("~") && lines.get("sends").stream().anyMatch(s -> s[0] == first && s[1] == now);
        again |= part.endsWith("!") && first == now;
        again |= line.equals("bars") && i == 1 && lines.get("bars").stream().anyMatch(s -> s[0] == first && s[1] == now);
        again |= line.equals("clash") && i == 1 && lines.get("clash").stream()
                .anyMatch(s -> s[0] == first && s[1] == now || s[0] == now && s[1] == first);
        return !again || fail(3, at);
    }

    private boolean isUnfinished(String line, String token) {
        return sortOf.get(token).equals(line) && numberOf.get(token) == lines.get(line).size();
    }

    private void begin() {
        prices = lines.get("god").stream().mapToInt(g -> g[1]).toArray();
        saints = lines.get("village").stream().mapToInt(v -> v[2]).toArray();
        sendings = new int[gods()][things()];
        for (int[] row : sendings) {
            Arrays.fill(row, -2);
        }
        for (int[] line : lines.get("sends")) {
            sendings[line[0]][line[1]] = line[2];
        }
    }

    int wide() {
        return lines.get("land").get(0)[0];
    }

    int high() {
        return lines.get("land").get(0)[1];
    }

    int law() {
        return lines.get("land").get(0)[2];
    }

    int count(String word) {
        return lines.get(word).size();
    }

    int things() {
        return count("thing");
    }

    int gods() {
        return count("god");
    }

    int prayers() {
        return count("prayer");
    }

    int soil(int x, int y) {
        return rows.get(y).charAt(x) - 'a';
    }

    boolean has(int god, int thing, int soil, int hour) {
        for (int[] h : lines.get("holds")) {
            if (h[0] == god && (h[1] == -2 || h[1] == thing) && (h[2] == -2 || h[2] == soil) && h[3] <= hour && hour < h[4]) {
                return true;
            }
        }
        return false;
    }

    int owners(int thing, int soil, int hour) {
        int bits = 0;
        for (int god = 0; god < gods(); god++) {
            bits |= has(god, thing, soil, hour) ? 1 << god : 0;
        }
        return bits;
    }

    List<Integer> points() {
        Set<Integer> soils = new TreeSet<>();
        for (String row : rows) {
            row.chars().forEach(c -> soils.add(c - 'a'));
        }
        List<Integer> all = new ArrayList<>();
        for (int thing = 0; thing < things(); thing++) {
            for (int soil : soils) {
                for (int hour = 0; hour < 24; hour++) {
                    all.add(1000 * thing + 100 * soil + hour);
                }
            }
        }
        return all;
    }

    boolean hasPoint(int god, int point) {
        return has(god, point / 1000, point / 100 % 10, point % 100);
    }

    Set<Integer> held(int god) {
        Set<Integer> all = new HashSet<>();
        for (int point : points()) {
            if (hasPoint(god, point)) {
                all.add(point);
            }
        }
        return all;
    }

    boolean asleep(int god) {
        return lines.get("god").get(god)[0] == 3 || lulled.contains(god);
    }

    boolean in(int god, int hour) {
        int[] g = lines.get("god").get(god);
        return !asleep(god) && g[3] <= hour && hour < g[4];
    }

    boolean bars(int god, int other) {
        return lines.get("bars").stream().anyMatch(b -> b[0] == god && b[1] == other);
    }

    /** A prayer on its way: thing, x, y, hour, god, start, gift, need. */
    final class Way {
        final int[] line;
        final int number;
        int fate = 2;
        int when = -2;
        int came;
        int waits = 0;
        final List<Integer> altars = new ArrayList<>();

        Way(int number, int god) {
            this.number = number;
            line = lines.get("prayer").get(number);
            came = line[5];
            altars.add(god);
        }

        int whom() {
            return altars.get(altars.size() - 1);
        }

        boolean late() {
            return fate == 0 && when > line[3];
        }

        void serve(int god, int hour) {
            waits += hour - came;
            when = hour;
            boolean good = has(god, line[0], soil(line[1], line[2]), line[3]) && line[6] >= prices[god];
            int kind = lines.get("god").get(god)[0];
            for (int altar : altars) {
                good &= kind != 1 || altar == god;
                good &= kind != 2 || !bars(god, altar);
            }
            int other = sendings[god][line[0]];
            if (good) {
                fate = 0;
            } else if (other == -2 || bars(god, other)) {
                fate = 1;
            } else {
                when = -2;
                came = hour + 1;
                altars.add(other);
            }
        }
    }

    int[][] queues = new int[6][96];

    List<Way> days(int law, int only, int god) {
        List<Way> all = new ArrayList<>();
        for (int p = 0; p < prayers(); p++) {
            if (only < 0 || only == p) {
                all.add(new Way(p, only < 0 ? lines.get("prayer").get(p)[4] : god));
            }
        }
        for (int hour = 0; hour < 96; hour++) {
            int now = hour;
            for (int g = 0; g < gods(); g++) {
                int altar = g;
                if (in(g, hour % 24)) {
                    Comparator<Way> order = Comparator.comparing((Way w) -> law == 0 ? 0 : -w.line[law == 1 ? 6 : 7])
                            .thenComparing(w -> w.came).thenComparing(w -> w.number);
                    all.stream().filter(w -> w.fate == 2 && w.whom() == altar && w.came <= now).sorted(order)
                            .limit(lines.get("god").get(g)[2]).toList().forEach(w -> w.serve(altar, now));
                }
            }
            for (int g = 0; g < gods(); g++) {
                int altar = g;
                queues[g][hour] = (int) all.stream().filter(w -> w.fate == 2 && w.whom() == altar && w.came <= now).count();
            }
        }
        all.stream().filter(w -> w.fate == 2).forEach(w -> w.waits += 96 - w.came);
        return all;
    }

    int alone(int prayer, int god) {
        Way way = days(law(), prayer, god).get(0);
        return way.fate == 0 ? way.when : -2;
    }

    int start(int prayer) {
        int best = -2;
        for (int god = gods() - 1; god >= 0; god--) {
            int hour = alone(prayer, god);
            if (hour >= 0 && (best == -2 || hour <= alone(prayer, best))) {
                best = god;
            }
        }
        return best;
    }

    int ring(int prayer) {
        int[] line = lines.get("prayer").get(prayer);
        List<Integer> been = new ArrayList<>();
        int god = line[4];
        while (!been.contains(god)) {
            been.add(god);
            int other = sendings[god][line[0]];
            if (other == -2 || bars(god, other)) {
                return -2;
            }
            god = other;
        }
        return been.size() - been.indexOf(god);
    }

    private boolean clashFree(Set<Integer> prayers) {
        return lines.get("clash").stream().noneMatch(c -> prayers.contains(c[0]) && prayers.contains(c[1]));
    }

    private static Set<Integer> members(int bits) {
        Set<Integer> all = new TreeSet<>();
        for (int i = 0; i < 10; i++) {
            if ((bits >> i & 1) == 1) {
                all.add(i);
            }
        }
        return all;
    }

    int together(List<Way> ways) {
        int best = 0;
        for (int bits = 255; bits >= 0; bits--) {
            Set<Integer> set = members(bits);
            boolean granted = set.stream().allMatch(p -> p < prayers() && ways.get(p).fate == 0);
            if (granted && clashFree(set) && set.size() >= Integer.bitCount(best)) {
                best = bits;
            }
        }
        return best;
    }

    /** Over all sets of prayers left ungranted, as the document tells it. */
    int offended(List<Way> ways) {
        int best = 63;
        for (int bits = 0; bits < 1 << prayers(); bits++) {
            int gods = 0;
            Set<Integer> others = new TreeSet<>();
            boolean granted = true;
            for (int p = 0; p < prayers(); p++) {
                boolean left = (bits >> p & 1) == 1;
                granted &= !left || ways.get(p).fate == 0;
                if (left) {
                    gods |= 1 << ways.get(p).whom();
                } else if (ways.get(p).fate == 0) {
                    others.add(p);
                }
            }
            int fewer = Integer.bitCount(gods) - Integer.bitCount(best);
            if (granted && clashFree(others) && (fewer < 0 || fewer == 0 && gods < best || best == 63)) {
                best = gods;
            }
        }
        return best;
    }

    int keep(boolean once) {
        List<Set<Integer>> held = new ArrayList<>();
        Set<Integer> all = new HashSet<>();
        for (int god = 0; god < gods(); god++) {
            held.add(held(god));
            all.addAll(held.get(god));
        }
        int best = -2;
        for (int bits = (1 << gods()) - 1; bits >= 0; bits--) {
            Set<Integer> sum = new HashSet<>();
            int parts = 0;
            for (int god : members(bits)) {
                sum.addAll(held.get(god));
                parts += held.get(god).size();
            }
            boolean right = sum.equals(all) && (!once || parts == all.size());
            if (right && (best == -2 || Integer.bitCount(bits) <= Integer.bitCount(best))) {
                best = bits;
            }
        }
        return best;
    }

    int content(int village, int[] row) {
        int[] line = lines.get("village").get(village);
        int god = row[village];
        int soil = soil(line[0], line[1]);
        int with = (int) Arrays.stream(row).filter(s -> s == god).count();
        int sum = (int) points().stream().filter(p -> p / 100 % 10 == soil && hasPoint(god, p)).count();
        return asleep(god) ? 0 : sum / with;
    }

    int saint(int village, int[] row) {
        int best = -1;
        int most = -1;
        int[] other = row.clone();
        for (int god = 0; god < gods(); god++) {
            other[village] = god;
            if (content(village, other) > most) {
                most = content(village, other);
                best = god;
            }
        }
        return best;
    }

    boolean rest(int[] row) {
        for (int v = 0; v < row.length; v++) {
            int[] other = row.clone();
            other[v] = saint(v, row);
            if (content(v, other) > content(v, row)) {
                return false;
            }
        }
        return true;
    }

    int rests(int[] row, int village) {
        if (village == row.length) {
            return rest(row) ? 1 : 0;
        }
        int sum = 0;
        for (int god = 0; god < gods(); god++) {
            row[village] = god;
            sum += rests(row, village + 1);
        }
        return sum;
    }

    int luck() {
        return count("luck") == 0 ? 0 : lines.get("luck").get(0)[0];
    }

    private static int cast(int luck, int[] spell) {
        return switch (spell[0]) {
            case 0 -> luck + spell[1];
            case 1 -> luck < spell[1] ? 0 : luck - spell[1];
            case 2 -> luck * spell[1];
            default -> luck / spell[1];
        };
    }

    int left() {
        int luck = luck();
        for (int[] spell : lines.get("spell")) {
            luck = cast(luck, spell);
        }
        return luck;
    }

    TreeSet<Integer> ends(int luck, List<int[]> spells) {
        TreeSet<Integer> all = new TreeSet<>();
        if (spells.isEmpty()) {
            all.add(luck);
        }
        for (int i = 0; i < spells.size(); i++) {
            List<int[]> others = new ArrayList<>(spells);
            others.remove(i);
            all.addAll(ends(cast(luck, spells.get(i)), others));
        }
        return all;
    }

    Set<Integer> fits() {
        Set<Integer> all = new LinkedHashSet<>();
        for (int god = 0; god < gods(); god++) {
            boolean fit = true;
            for (int[] saw : lines.get("saw")) {
                fit &= has(god, saw[0], saw[1], saw[2]) == (saw[3] == 0);
            }
            if (fit) {
                all.add(god);
            }
        }
        return all;
    }

    int behind(int point) {
        int yes = (int) fits().stream().filter(g -> hasPoint(g, point)).count();
        return Math.max(yes, fits().size() - yes);
    }

    int ask() {
        return points().stream().min(Comparator.comparing(this::behind)).get();
    }

    /** All that acts change, as one text, for going back by. */
    Object[] state() {
        int[][] copy = new int[sendings.length][];
        for (int i = 0; i < copy.length; i++) {
            copy[i] = sendings[i].clone();
        }
        return new Object[] {new TreeSet<>(lulled), prices.clone(), copy, saints.clone(), seed};
    }

    void restore(Object[] state) {
        Set<Integer> sleepers = new TreeSet<>();
        for (Object god : (Set<?>) state[0]) {
            sleepers.add((Integer) god);
        }
        lulled = sleepers;
        prices = ((int[]) state[1]).clone();
        int[][] kept = (int[][]) state[2];
        sendings = new int[kept.length][];
        for (int i = 0; i < kept.length; i++) {
            sendings[i] = kept[i].clone();
        }
        saints = ((int[]) state[3]).clone();
        seed = (Integer) state[4];
    }
}
