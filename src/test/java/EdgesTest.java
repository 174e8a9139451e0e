import java.lang.reflect.InvocationTargetException;
import java.lang.reflect.Method;
import java.lang.reflect.Modifier;
import java.util.ArrayList;
import java.util.Comparator;
import java.util.List;
import java.util.NoSuchElementException;
import java.util.Random;

/** Calls by draws with numbers near and far: none throws but led, and what is refused changes nothing. */
public final class EdgesTest {
    private static final int[] NUMBERS = {Integer.MIN_VALUE, Integer.MIN_VALUE + 1, -1000, -3, -2, -1, 0, 0, 0, 1, 1, 2, 3,
        4, 5, 6, 7, 8, 14, 15, 23, 24, 25, 95, 96, 97, 99, 100, 1200, 1201, 65536, 65537, Integer.MAX_VALUE};
    private static final List<String> UNNUMBERED = List.of("feed", "fault", "where", "led", "size", "trouble");
    private static final String TEXT = "land wide 6 high 4 law gift;row abcdea;row abcdea;row abcdea;row abcdea"
            + ";thing i;thing j;thing k;thing l;thing m;thing n"
            + ";god a plain price 0 serves 1 from 0 to 24;god b proud price 1 serves 1 from 3 to 24"
            + ";god c jealous price 2 serves 9 from 0 to 24;god d asleep price 0 serves 1 from 3 to 24"
            + ";god e plain price 0 serves 1 from 0 to 24;god f plain price 0 serves 1 from 0 to 24"
            + ";holds a i any 0 to 9;holds b i any 3 to 12;sends a i b;sends b i a;bars c b"
            + ";prayer p i at 0,0 hour 23 starts a 0 gift 1 need 2;prayer q j at 5,3 hour 1 starts b 2 gift 3 need 1"
            + ";clash p q;village v at 0,0 saint a;village w at 5,3 saint b;village x at 5,3 saint b"
            + ";village y at 5,3 saint f;luck 99;spell adds 1;spell times 2;spell takes 3;spell shares 4";

    private static List<Method> face() {
        List<Method> face = new ArrayList<>();
        for (Method method : PrayerWay.class.getDeclaredMethods()) {
            if (Modifier.isPublic(method.getModifiers())) {
                face.add(method);
            }
        }
        face.sort(Comparator.comparing(Method::getName));
        return face;
    }

    private static void call(PrayerWay way, Method method, Random random) throws IllegalAccessException {
        Object[] arguments = new Object[method.getParameterCount()];
        StringBuilder told = new StringBuilder(method.getName());
        for (int i = 0; i < arguments.length; i++) {
            boolean truth = method.getParameterTypes()[i] == boolean.class;
            arguments[i] = truth ? (Object) random.nextBoolean() : (Object) NUMBERS[random.nextInt(NUMBERS.length)];
            told.append(' ').append(arguments[i]);
        }
        int trouble = way.trouble();
        Object answer = null;
        boolean wrong = false;
        try {
            answer = method.invoke(way, arguments);
        } catch (InvocationTargetException e) {
            wrong = !(e.getCause() instanceof NoSuchElementException && method.getName().equals("led"));
        }
        Checks.due(told + " throws", 0, wrong ? 1 : 0);
        if (UNNUMBERED.contains(method.getName())) {
            Checks.due(told + " leaves trouble", trouble, way.trouble());
        } else {
            boolean refused = answer instanceof Boolean done ? !done : answer instanceof Integer n && n == PrayerWay.NONE;
            Checks.due(told + " answered " + answer + ": has trouble", refused ? 1 : 0, way.trouble() != 0 ? 1 : 0);
        }
    }

    public static void main(String[] args) throws IllegalAccessException {
        List<Method> face = face();
        for (int run = 0; run < 200; run++) {
            Random random = new Random(run);
            PrayerWay way = run % 4 == 0 ? new PrayerWay() : Checks.fresh(TEXT);
            for (int i = 0; i < 460; i++) {
                call(way, face.get(random.nextInt(face.size())), random);
            }
        }
        Checks.end("EdgesTest");
    }
}
