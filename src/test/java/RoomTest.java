import java.lang.reflect.Array;
import java.lang.reflect.Field;
import java.lang.reflect.Modifier;
import java.util.ArrayDeque;
import java.util.Collections;
import java.util.IdentityHashMap;
import java.util.Set;

/**
 * What one object takes of the room that all calls of a run share. As nothing is made outside constructors (RulesTest), it
 * is the same behind as many of the dearest calls as there may be.
 */
public final class RoomTest {
    private static final Check CHECK = new Check("RoomTest");
    private static final String RICH = "city 5 5;person 2 2 north lefts 99 coins 999;price:hour*hour+sold;may:not [hour=3 and head=x];";

    private int objects;
    private int elements;

    private RoomTest() {
    }

    public static void main(String[] args) throws IllegalAccessException {
        LeftTurns x = new LeftTurns();
        RoomTest before = new RoomTest();
        before.count(x);
        for (int calls = 0; calls < 450; calls += 10) {
            dearest(x, calls);
        }
        RoomTest behind = new RoomTest();
        behind.count(x);
        CHECK.due("objects behind the calls", behind.objects, before.objects);
        CHECK.due("elements behind the calls", behind.elements, before.elements);
        CHECK.due("objects and arrays: " + before.objects, before.objects < 1000);
        CHECK.due("fields and elements: " + before.elements, before.elements < 60000);
        CHECK.end();
    }

    private static void dearest(LeftTurns x, int calls) {
        if (calls % 100 == 0) {
            Check.read(x, RICH);
        }
        Check.tray(x, 0, 24, 0, 4, 20);
        x.week(calls, 60);
        x.round(0, 0, 1);
        x.makeFree(0, 24, 20, 0);
        x.image(calls / 10 % 2);
        x.restore(calls / 10 % 2);
    }

    private void count(Object root) throws IllegalAccessException {
        Set<Object> seen = Collections.newSetFromMap(new IdentityHashMap<>());
        ArrayDeque<Object> open = new ArrayDeque<>();
        seen.add(root);
        open.add(root);
        while (!open.isEmpty()) {
            Object object = open.remove();
            objects++;
            if (object.getClass().isArray()) {
                elements += Array.getLength(object);
                for (int i = 0; !object.getClass().getComponentType().isPrimitive() && i < Array.getLength(object); i++) {
                    follow(Array.get(object, i), seen, open);
                }
            } else {
                countFields(object, seen, open);
            }
        }
    }

    private void countFields(Object object, Set<Object> seen, ArrayDeque<Object> open) throws IllegalAccessException {
        for (Field field : object.getClass().getDeclaredFields()) {
            if (!Modifier.isStatic(field.getModifiers())) {
                elements++;
                field.setAccessible(true);
                if (!field.getType().isPrimitive()) {
                    follow(field.get(object), seen, open);
                }
            }
        }
    }

    private static void follow(Object object, Set<Object> seen, ArrayDeque<Object> open) {
        if (object != null && seen.add(object)) {
            open.add(object);
        }
    }
}
