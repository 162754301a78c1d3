import java.lang.reflect.Array;
import java.lang.reflect.Field;
import java.lang.reflect.Method;
import java.lang.reflect.Modifier;
import java.util.ArrayDeque;
import java.util.Arrays;
import java.util.Collections;
import java.util.Deque;
import java.util.IdentityHashMap;
import java.util.Set;

/**
 * The room of ../shared/LANGUAGE.md, rule 12: an object holds few objects and elements, and calls make no more of them;
 * rule 11: methods take at most seven parameters and classes have at most some twenty fields.
 */
public final class RoomTest {
    // 600000 objects and 7300000 fields and elements, were every one of 512 calls to make a new ArbitrationFees
    private static final int MOST_OBJECTS = 600000 / 512;
    private static final int MOST_ELEMENTS = 7300000 / 512;

    private int objects = 0;
    private int elements = 0;

    public static void main(String[] args) throws IllegalAccessException {
        ArbitrationFees x = new ArbitrationFees();
        RoomTest first = new RoomTest();
        first.count(x);
        Check.due("few objects: " + first.objects, first.objects <= MOST_OBJECTS ? 1 : 0, 1);
        Check.due("few elements: " + first.elements, first.elements <= MOST_ELEMENTS ? 1 : 0, 1);
        use(x);
        RoomTest then = new RoomTest();
        then.count(x);
        Check.due("no objects more", then.objects, first.objects);
        Check.due("no elements more", then.elements, first.elements);
        shapeOf(ArbitrationFees.class);
        for (Class<?> inside : ArbitrationFees.class.getDeclaredClasses()) {
            shapeOf(inside);
        }
        Check.end();
    }

    private static void use(ArbitrationFees x) {
        for (int i = 0; i < 6; i++) {
            x.addParty(i % 2, 1);
        }
        x.goOn();
        for (int i = 0; i < 12; i++) {
            Check.owe(x, i % 2, 1 - i % 2, 1000);
        }
        for (int i = 0; i < 20; i++) {
            x.call(6000);
            x.payFor(i % 6, (i + 1) % 6);
            x.save();
            x.pass(5);
            x.takeFees();
            Check.read(x, "p0:5;n1;");
            x.undo();
            x.ring(0);
        }
        x.clearRings();
        x.restore();
        x.clear();
    }

    /** Everything that can be reached from the object. */
    private void count(Object start) throws IllegalAccessException {
        Set<Object> seen = Collections.newSetFromMap(new IdentityHashMap<>());
        Deque<Object> open = new ArrayDeque<>();
        open.add(start);
        while (!open.isEmpty()) {
            Object next = open.remove();
            if (!seen.add(next)) {
                continue;
            }
            objects++;
            if (next.getClass().isArray()) {
                addElements(next, open);
            } else {
                addFields(next, open);
            }
        }
    }

    private void addElements(Object array, Deque<Object> open) {
        elements += Array.getLength(array);
        for (int i = 0; i < Array.getLength(array) && !array.getClass().getComponentType().isPrimitive(); i++) {
            open.add(Array.get(array, i));
        }
    }

    private void addFields(Object object, Deque<Object> open) throws IllegalAccessException {
        for (Field field : object.getClass().getDeclaredFields()) {
            if (!Modifier.isStatic(field.getModifiers())) {
                elements++;
                field.setAccessible(true);
                if (!field.getType().isPrimitive()) {
                    open.add(field.get(object));
                }
            }
        }
    }

    private static void shapeOf(Class<?> type) {
        for (Method method : type.getDeclaredMethods()) {
            Check.due("at most seven parameters: " + method, method.getParameterCount() <= 7 ? 1 : 0, 1);
        }
        long fields = Arrays.stream(type.getDeclaredFields())
                .filter(field -> !Modifier.isStatic(field.getModifiers())).count();
        Check.due("at most twenty fields: " + type, fields <= 20 ? 1 : 0, 1);
        for (Field field : type.getDeclaredFields()) {
            boolean isFree = !Modifier.isStatic(field.getModifiers()) || Modifier.isFinal(field.getModifiers());
            Check.due("no static state: " + field, isFree ? 1 : 0, 1);
        }
    }
}
