import java.lang.management.ManagementFactory;
import java.lang.reflect.Array;
import java.lang.reflect.Field;
import java.lang.reflect.Modifier;
import java.nio.charset.StandardCharsets;
import java.util.IdentityHashMap;
import java.util.Map;

/** All calls of a run live in one room: an object stays small, and its calls make nothing more. */
public final class RoomTest {
    private static final String TEXT = "land wide 6 high 4 law gift;row abcdea;row abcdea;row abcdea;row abcdea"
            + ";thing i;thing j;god g plain price 0 serves 1 from 0 to 24;god h proud price 1 serves 1 from 3 to 24"
            + ";holds g any any 0 to 9;holds h i any 3 to 12;sends g i h;sends h i g"
            + ";prayer p i at 0,0 hour 23 starts g 0 gift 1 need 2;prayer q j at 5,3 hour 1 starts h 2 gift 3 need 1"
            + ";clash p q;village v at 0,0 saint g;village w at 5,3 saint h;luck 9"
            + ";spell adds 1;spell times 2;spell takes 3;spell shares 4;spell adds 5;spell times 6;saw j a 0 no";

    private static long objects = 0;
    private static long elements = 0;

    private static void count(Object thing, Map<Object, Object> known) throws IllegalAccessException {
        if (thing == null || known.put(thing, thing) != null) {
            return;
        }
        objects++;
        Class<?> type = thing.getClass();
        if (type.isArray()) {
            elements += Array.getLength(thing);
            for (int i = 0; i < Array.getLength(thing) && !type.getComponentType().isPrimitive(); i++) {
                count(Array.get(thing, i), known);
            }
            return;
        }
        for (Field field : type.getDeclaredFields()) {
            if (!Modifier.isStatic(field.getModifiers())) {
                elements++;
                field.setAccessible(true);
                if (!field.getType().isPrimitive()) {
                    count(field.get(thing), known);
                }
            }
        }
    }

    private static int all(PrayerWay way) {
        int sum = way.land(way.size(14)) + way.fault() + way.where() + way.soil(1, 1) + way.has(0, 0, 0, 0);
        sum += way.owners(0, 0, 0) + way.many(0) + way.points() + way.nobodys() + way.firstNobodys() + way.disputed();
        sum += way.shared(0, 1) + way.in(0, 0) + way.fate(0) + way.when(0) + way.whom(0) + way.waits(0) + way.altars(0);
        sum += way.altar(0, 1) + way.late(0) + way.law(2, 2) + way.queue(0, 3) + way.alone(0, 0) + way.start(0);
        sum += way.ring(0) + way.together() + way.offended() + way.keep() + way.once() + way.content(0) + way.saint(0);
        sum += way.rest() + way.rests() + way.left() + way.ends(0) + way.fits() + way.ask() + way.askMost();
        sum += (way.sleep(0, true) ? 1 : 0) + way.age() + (way.price(0, 9) ? 1 : 0) + (way.send(0, 1, 1) ? 1 : 0);
        sum += (way.changes(0, 1) ? 1 : 0) + (way.seed(5) ? 1 : 0) + (way.undo() ? 1 : 0) + way.mark();
        sum += (way.back(0) ? 1 : 0) + way.god(0, 5) + way.sends(0, 0) + way.bars(0, 1) + way.prayer(0, 0);
        return sum + way.village(0, 0) + way.size(3) + way.trouble() + way.fate(1);
    }

    private static long made() {
        com.sun.management.ThreadMXBean threads =
                (com.sun.management.ThreadMXBean) ManagementFactory.getThreadMXBean();
        return threads.getThreadAllocatedBytes(Thread.currentThread().getId());
    }

    public static void main(String[] args) throws IllegalAccessException {
        PrayerWay way = Checks.fresh(TEXT);
        count(way, new IdentityHashMap<>());
        System.out.println("RoomTest: " + objects + " objects and arrays, " + elements + " fields and elements");
        Checks.due("few objects", 1, objects <= 250 ? 1 : 0);
        Checks.due("few elements", 1, elements <= 10000 ? 1 : 0);
        byte[] text = TEXT.getBytes(StandardCharsets.ISO_8859_1);
        int sum = 0;
        // Looking makes something itself, now more and now less: the least of both is compared.
        long looked = Long.MAX_VALUE;
        long called = Long.MAX_VALUE;
        for (int i = 0; i < 50; i++) {
            Checks.feed(way, text);
            long first = made();
            long before = made();
            sum += all(way);
            long after = made();
            looked = Math.min(looked, before - first);
            called = Math.min(called, after - before);
        }
        Checks.due("calls make nothing (" + sum + ")", looked, called);
        Checks.end("RoomTest");
    }
}
