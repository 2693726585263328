import java.lang.management.ManagementFactory;
import java.lang.reflect.Array;
import java.lang.reflect.Field;
import java.lang.reflect.Modifier;
import java.util.ArrayDeque;
import java.util.IdentityHashMap;

/** An object's room is made with it and used again: the dearest calls make nothing more. */
public final class RoomTest {
    private static final Check check = new Check();

    private static long objects = 0;
    private static long elements = 0;

    private static void count(Object root) throws IllegalAccessException {
        IdentityHashMap<Object, Boolean> met = new IdentityHashMap<>();
        ArrayDeque<Object> open = new ArrayDeque<>();
        open.add(root);
        while (!open.isEmpty()) {
            Object o = open.remove();
            if (met.put(o, true) != null) {
                continue;
            }
            objects++;
            if (o.getClass().isArray()) {
                elements += Array.getLength(o);
                for (int k = 0; k < Array.getLength(o) && !o.getClass().getComponentType().isPrimitive(); k++) {
                    open.add(Array.get(o, k));
                }
            } else {
                for (Field f : o.getClass().getDeclaredFields()) {
                    if (!Modifier.isStatic(f.getModifiers())) {
                        elements++;
                        f.setAccessible(true);
                        if (!f.getType().isPrimitive()) {
                            check.that(f + " is null", f.get(o) != null);
                            open.add(f.get(o));
                        }
                    }
                }
            }
        }
    }

    private static ReadingChart fullText() {
        ReadingChart x = new ReadingChart();
        for (int k = 0; k < 40; k++) {
            x.word(0);
            for (int r = 0; r < 4; r++) {
                x.reading(k, k % 2, r % 3 == 0 ? 9 : r % 2, 1 + k % 3, 1 + r % 3, 0);
            }
        }
        for (int k = 0; k < 16; k++) {
            x.rule(9, k % 2 == 0 ? 9 : 0, k % 3 == 0 ? 1 : 9, 1);
            x.equate(k, 0, 1, 2, 3);
            x.equate(k, 1, 0, 1, 0);
            x.equate(k, 0, 0, 2, 2);
        }
        for (int k = 0; k < 24; k++) {
            x.append(k / 6, k);
        }
        return x;
    }

    public static void main(String[] args) throws IllegalAccessException {
        count(fullText());
        System.out.println(objects + " objects and arrays, " + elements + " fields and elements");
        check.that("an object takes too much room", objects < 200 && elements < 20000);
        var threads = (com.sun.management.ThreadMXBean) ManagementFactory.getThreadMXBean();
        ReadingChart x = fullText();
        int sum = x.mendAll(3);
        long before = threads.getCurrentThreadAllocatedBytes();
        for (int k = 0; k < 1000; k++) {
            x.change(3, k % 6, k % 40);
            sum += x.mendAll(3) + x.best(3) + x.faults(3) + x.costAnew(3) + x.fragments(3) + x.styleFaults(3);
        }
        long made = threads.getCurrentThreadAllocatedBytes() - before;
        System.out.println("7000 calls made " + made + " bytes (" + sum + ")");
        check.that("calls make objects", made < 50000);
        check.end();
    }
}
