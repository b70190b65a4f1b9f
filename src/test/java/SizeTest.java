import java.lang.reflect.Array;
import java.lang.reflect.Field;
import java.lang.reflect.Modifier;
import java.util.Collections;
import java.util.IdentityHashMap;
import java.util.Set;

/**
 * All calls of a run live in one room of some 600,000 objects with 7.3 million fields and elements:
 * an object takes a small part of that, and does not grow by calls.
 */
public final class SizeTest {
    private static final int CALLS = 512;
    private static final int CALLS_A_ROUND = 11;
    private static final int MOST_OBJECTS = 60;
    private static final int MOST_PARTS = 5000;

    private final Set<Object> seen = Collections.newSetFromMap(new IdentityHashMap<>());
    private int parts = 0;

    public static void main(String[] args) throws IllegalAccessException {
        Checks checks = new Checks();
        SizeTest first = sizeOf(new ExamDesk());
        checks.due("objects and arrays of a new object", true,
                () -> first.seen.size() <= MOST_OBJECTS);
        checks.due("fields and elements of a new object", true, () -> first.parts <= MOST_PARTS);
        ExamDesk used = usedDesk();
        SizeTest last = sizeOf(used);
        checks.due("the calls were answered", true, () -> used.count(3) > 0 && used.count(4) > 0);
        checks.due("objects behind 512 calls", first.seen.size(), () -> last.seen.size());
        checks.due("fields and elements behind 512 calls", first.parts, () -> last.parts);
        checks.finish("SizeTest");
    }

    private static SizeTest sizeOf(ExamDesk desk) throws IllegalAccessException {
        SizeTest size = new SizeTest();
        size.add(desk);
        return size;
    }

    private void add(Object one) throws IllegalAccessException {
        if (one == null || !seen.add(one)) {
            return;
        }
        if (one.getClass().isArray()) {
            addElements(one);
        } else {
            addFields(one);
        }
    }

    private void addElements(Object array) throws IllegalAccessException {
        parts += Array.getLength(array);
        if (!array.getClass().getComponentType().isPrimitive()) {
            for (int i = 0; i < Array.getLength(array); i++) {
                add(Array.get(array, i));
            }
        }
    }

    private void addFields(Object one) throws IllegalAccessException {
        for (Field field : one.getClass().getDeclaredFields()) {
            if (!Modifier.isStatic(field.getModifiers())) {
                parts++;
                if (!field.getType().isPrimitive()) {
                    field.setAccessible(true);
                    add(field.get(one));
                }
            }
        }
    }

    private static ExamDesk usedDesk() {
        ExamDesk desk = Desks.busyOffice();
        for (int i = 0; i < (CALLS - 40) / CALLS_A_ROUND; i++) {
            int c = i % 40;
            desk.enrol(c, i % 9, i % 3 != 0);
            desk.extra(c, i % 4 == 0);
            desk.rule(i % 3, i % 2, 2 + i % 7, true);
            desk.room(i % 4, 6, 6, i % 4 == 2);
            desk.most(i % 10, 6);
            desk.plan();
            if (desk.count(2) > 0) {
                desk.seat(desk.planned(0));
                desk.watch(desk.planned(0));
            }
        }
        return desk;
    }
}
