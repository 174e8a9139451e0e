import java.io.ByteArrayOutputStream;
import java.io.IOException;
import java.io.PrintStream;
import java.lang.reflect.Method;
import java.lang.reflect.Modifier;
import java.nio.charset.StandardCharsets;
import java.nio.file.Files;
import java.nio.file.Path;
import java.util.Set;
import java.util.TreeSet;
import java.util.regex.Matcher;
import java.util.regex.Pattern;
import java.util.stream.Stream;

/** README.md: what it says of the class and of its tests is so. */
public final class ReadmeTest {
    private static final Path TESTS = Path.of("src/test/java");

    private static String page;

    /** What stands between a fence of three ticks with this word behind it and the next fence. */
    private static String block(String word) {
        Matcher block = Pattern.compile("(?ms)^```" + word + "\n(.*?)^```$").matcher(page);
        return block.find() ? block.group(1) : "no block " + word;
    }

    private static void same(String call, String want, String got) {
        boolean like = want.equals(got);
        if (!like) {
            System.out.println(call + ": due is\n" + want + "but there is\n" + got);
        }
        Checks.due(call, 1, like ? 1 : 0);
    }

    private static void example() throws IOException {
        same("the example", Files.readString(TESTS.resolve("Example.java")), block("java"));
        PrintStream screen = System.out;
        ByteArrayOutputStream printed = new ByteArrayOutputStream();
        System.setOut(new PrintStream(printed, true, StandardCharsets.UTF_8));
        Example.main(new String[0]);
        System.setOut(screen);
        same("what it prints", printed.toString(StandardCharsets.UTF_8).replace("\r\n", "\n"), block("text"));
    }

    /** All that stands between single ticks in the first column of tables. */
    private static Set<String> firstColumn() {
        Set<String> names = new TreeSet<>();
        Matcher rows = Pattern.compile("(?m)^\\| (`.*?`) \\|").matcher(page);
        while (rows.find()) {
            Matcher each = Pattern.compile("`(\\w+)`").matcher(rows.group(1));
            while (each.find()) {
                Checks.due("told once: " + each.group(1), 1, names.add(each.group(1)) ? 1 : 0);
            }
        }
        return names;
    }

    private static Set<String> callsAndTests() throws IOException {
        Set<String> names = new TreeSet<>();
        for (Method method : PrayerWay.class.getDeclaredMethods()) {
            if (Modifier.isPublic(method.getModifiers())) {
                names.add(method.getName());
            }
        }
        try (Stream<Path> files = Files.list(TESTS)) {
            files.map(file -> file.getFileName().toString()).filter(name -> name.endsWith("Test.java"))
                    .forEach(name -> names.add(name.replace(".java", "")));
        }
        return names;
    }

    /** Some words on the page, wherever its lines are broken. */
    private static void stands(String words) {
        Checks.due("README: " + words, 1, page.replaceAll("\\s+", " ").contains(words) ? 1 : 0);
    }

    private static void trouble(int number, String words, int got) {
        stands(number + " " + words);
        Checks.due("trouble: " + words, number, got);
    }

    private static void troubles() {
        PrayerWay way = Checks.fresh(Texts.ALL);
        way.soil(9, 9);
        trouble(1, "there is none such", way.trouble());
        way.price(0, 100);
        trouble(2, "a number out of bounds", way.trouble());
        for (int i = 0; i < 4; i++) {
            way.mark();
        }
        trouble(3, "no room", way.trouble());
        Checks.land(way, "land");
        trouble(4, "a faulty text", way.trouble());
        way.price(0, 0);
        trouble(5, "not so (it is so already, or a god would send to himself)", way.trouble());
        way.send(0, 0, 0);
        Checks.due("trouble of sending to himself", 5, way.trouble());
        way.undo();
        trouble(6, "there is none", way.trouble());
    }

    private static void fault(int number, String words, String text) {
        stands(number + " " + words);
        Texts.fault(number, text);
    }

    private static void faults() {
        fault(1, "form", Texts.ALL + ";|odd");
        fault(2, "a name that isn't told or is of another sort", Texts.ALL + ";holds |t");
        fault(3, "told again", Texts.ALL + ";thing |t");
        fault(4, "a number out of bounds", Texts.ALL + ";luck |100");
        fault(5, "too many lines", Texts.ALL + ";|row ab");
        fault(6, "a line that lacks", Texts.HEAD + "|");
        fault(7, "a soil or row that is none", Texts.ALL + ";saw t |f");
    }

    private static void otherAnswers() {
        PrayerWay way = Checks.fresh(Texts.ALL);
        way.mark();
        Checks.due("size of none such", PrayerWay.NONE, way.size(15));
        for (int i = 0; i < 60; i++) {
            way.feed(0, 0, 0, 0, 0);
        }
        Checks.due("a tape of 1,200 bytes", 1200, way.size(14));
        Checks.due("feed beyond it", PrayerWay.NONE, way.feed(0, 0, 0, 0, 0));
        Checks.due("feed and size leave trouble alone", 0, way.trouble());
        Checks.due("nothing to tell", -2, way.sends(0, 0));
        Checks.noLed("led", way, 0);
    }

    public static void main(String[] args) throws IOException {
        page = Files.readString(Path.of("README.md"));
        example();
        same("calls and tests in tables", callsAndTests() + "\n", firstColumn() + "\n");
        troubles();
        faults();
        otherAnswers();
        Checks.end("ReadmeTest");
    }
}
