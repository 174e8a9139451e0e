import java.nio.charset.StandardCharsets;
import java.util.Arrays;
import java.util.NoSuchElementException;

/** What the tests share: feeding texts, comparing answers, and the end with 1 if one was wrong. */
final class Checks {
    static final int NONE = PrayerWay.NONE;
    static final int NOTHING = -2;

    private static int wrong = 0;
    private static int asked = 0;

    private Checks() {
    }

    static void due(String call, long want, long got) {
        asked++;
        if (got != want) {
            wrong++;
            if (wrong <= 12) {
                String told = call.length() > 1300 ? call.substring(0, 1300) : call;
                System.out.println(told + " answered " + got + ", due is " + want);
            }
        }
    }

    static void yes(String call, PrayerWay way, boolean got) {
        due(call, 1, got ? 1 : 0);
        due(call + ", trouble", 0, way.trouble());
    }

    static void no(String call, PrayerWay way, int trouble, boolean got) {
        due(call, 0, got ? 1 : 0);
        due(call + ", trouble", trouble, way.trouble());
    }

    /** A call that is refused with NONE and the number of its trouble. */
    static void refused(String call, PrayerWay way, int trouble, int got) {
        due(call, NONE, got);
        due(call + ", trouble", trouble, way.trouble());
    }

    /** A call that may be refused, but isn't. */
    static void told(String call, PrayerWay way, int want, int got) {
        due(call, want, got);
        due(call + ", trouble", 0, way.trouble());
    }

    static void noLed(String call, PrayerWay way, int i) {
        int before = way.trouble();
        boolean thrown = false;
        try {
            way.led(i);
        } catch (NoSuchElementException e) {
            thrown = true;
        }
        due(call + " throws", 1, thrown ? 1 : 0);
        due(call + " leaves trouble", before, way.trouble());
    }

    static void feed(PrayerWay way, byte[] text) {
        byte[] padded = Arrays.copyOf(text, (text.length + 19) / 20 * 20);
        for (int i = text.length; i < padded.length; i++) {
            padded[i] = ' ';
        }
        for (int i = 0; i < padded.length; i += 20) {
            way.feed(four(padded, i), four(padded, i + 4), four(padded, i + 8), four(padded, i + 12),
                    four(padded, i + 16));
        }
    }

    private static int four(byte[] bytes, int i) {
        return (bytes[i] & 255) << 24 | (bytes[i + 1] & 255) << 16 | (bytes[i + 2] & 255) << 8 | bytes[i + 3] & 255;
    }

    static int land(PrayerWay way, String text) {
        byte[] bytes = text.getBytes(StandardCharsets.ISO_8859_1);
        feed(way, bytes);
        return way.land(bytes.length);
    }

    static PrayerWay fresh(String text) {
        PrayerWay way = new PrayerWay();
        int gods = land(way, text);
        if (gods < 1) {
            due("land: " + text + ": fault " + way.fault() + " at " + way.where() + ": gods > 0", 1, 0);
        }
        return way;
    }

    static void end(String name) {
        System.out.println(name + ": " + asked + " answers asked, " + wrong + " not as due");
        if (wrong != 0 || asked == 0) {
            System.exit(1);
        }
    }
}
