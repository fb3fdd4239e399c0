import java.lang.reflect.Constructor;
import java.lang.reflect.Field;
import java.lang.reflect.InvocationTargetException;
import java.lang.reflect.Method;
import java.lang.reflect.Modifier;
import java.util.ArrayList;
import java.util.Arrays;
import java.util.Collections;
import java.util.List;
import java.util.Random;

/** The face as the document tells it and no other member; no call throws, whatever it is given. */
public final class FaceTest {
    private static final String[] FACE = {
        "int feed(int, int, int, int, int)", "int city(int)", "int fault(int)", "int person(int, int)", "int street(int, int)",
        "int crossing(int, int)", "int price(int, int, int)", "int why(int, int)", "int go(int, int)", "int judge(int, int)",
        "int walk(int)", "int buy(int, int)", "int sell(int)", "int hand(int, int, int)", "int fog(int, int)", "int hours(int)",
        "int undo(int)", "int week(int, int)", "int way(int, int, int)", "int turn(int, int, int, int)",
        "int fewest(int, int, int)", "int cheapest(int, int, int)", "long ways(int, int, int, int)", "int reach(int, int)",
        "int enough(int)", "int byRights(int, int)", "int round(int, int, int)", "int makeFree(int, int, int, int)",
        "int bestCorner(int, int, int)", "int dealing(int, int, int)", "int cheap()", "int affords(int)",
        "int found(int, int, int)", "int chase(int, int, int, int)", "int posts(int, int, int, int)",
        "int numbers(int, int, int)", "long write(int, int, long)", "int lists(int, int, int, int)", "int image(int)",
        "int restore(int)", "int count(int)"};
    private static final Check CHECK = new Check("FaceTest");

    public static void main(String[] args) throws ReflectiveOperationException {
        members();
        names();
        nothingThrows();
        refusedChangeNothing();
        CHECK.end();
    }

    private static String told(Method m) {
        StringBuilder text = new StringBuilder(m.getReturnType().getName()).append(' ').append(m.getName()).append('(');
        for (int i = 0; i < m.getParameterCount(); i++) {
            text.append(i > 0 ? ", " : "").append(m.getParameterTypes()[i].getName());
        }
        return text.append(')').toString();
    }

    private static List<Method> face() {
        List<Method> methods = new ArrayList<>();
        for (Method m : LeftTurns.class.getDeclaredMethods()) {
            if (!Modifier.isPrivate(m.getModifiers()) && !m.isSynthetic()) {
                methods.add(m);
            }
        }
        methods.sort((a, b) -> told(a).compareTo(told(b)));
        return methods;
    }

    private static void members() {
        List<String> got = new ArrayList<>();
        for (Method m : face()) {
            CHECK.due(told(m) + " is public and no static one", m.getModifiers(), Modifier.PUBLIC);
            got.add(told(m));
        }
        List<String> want = new ArrayList<>(Arrays.asList(FACE));
        Collections.sort(want);
        CHECK.due("the methods are " + got, got.equals(want) ? 1 : 0, 1);
        CHECK.due("the class is public and final", LeftTurns.class.getModifiers(), Modifier.PUBLIC | Modifier.FINAL);
        Constructor<?>[] made = LeftTurns.class.getDeclaredConstructors();
        CHECK.due("constructors", made.length, 1);
        CHECK.due("its parameters", made[0].getParameterCount(), 0);
        CHECK.due("it is public", made[0].getModifiers(), Modifier.PUBLIC);
        for (Field f : LeftTurns.class.getDeclaredFields()) {
            boolean shown = !Modifier.isPrivate(f.getModifiers());
            CHECK.due("field " + f.getName() + " is shown", shown ? 1 : 0, f.getName().equals("NONE") ? 1 : 0);
        }
        CHECK.due("NONE", LeftTurns.NONE, -1);
    }

    private static void names() {
        List<Class<?>> all = new ArrayList<>(Arrays.asList(LeftTurns.class.getDeclaredClasses()));
        CHECK.due("at most twelve classes", all.size() + 1 <= 12 ? 1 : 0, 1);
        for (Class<?> inside : all) {
            CHECK.due(inside + " is private, static, final", inside.getModifiers(),
                Modifier.PRIVATE | Modifier.STATIC | Modifier.FINAL);
        }
        all.add(LeftTurns.class);
        for (Class<?> c : all) {
            int fields = 0;
            for (Field f : c.getDeclaredFields()) {
                fields += Modifier.isStatic(f.getModifiers()) ? 0 : 1;
            }
            CHECK.due(c + " has at most twenty fields", fields <= 20 ? 1 : 0, 1);
            for (Method m : c.getDeclaredMethods()) {
                boolean named = false;
                for (String f : FACE) {
                    named |= f.contains(" " + m.getName() + "(");
                }
                CHECK.due(c + "." + m.getName() + " bears a name of the face", named ? 1 : 0,
                    c == LeftTurns.class && Modifier.isPublic(m.getModifiers()) ? 1 : 0);
                CHECK.due(c + "." + m.getName() + " has at most seven parameters", m.getParameterCount() <= 7 ? 1 : 0, 1);
            }
        }
    }

    private static final String[] CITIES = {"", "city 2 2;", "city 5 5; person 0 0 north lefts 99 coins 999;",
        "city 5 5; person 2 2 east lefts 9; person 2 2 west coins 9; person 4 4 south; person 0 4 north; person 1 1 north lefts 1;"
            + " price: sold*sold*hour + day; may: not [hour > 3 and (x + 1) * (y + 1) < 9 or head = 2]; free 1 1; wall 2 2 1; hour 999;"};

    private static long odd(Random random) {
        long[] values = {0, 1, 2, 3, 4, 5, 10, 11, 14, 20, 24, 25, 30, 40, 60, 61, 120, 121, 999, 1000, -1, -2,
            Integer.MAX_VALUE, Integer.MIN_VALUE, Integer.MAX_VALUE - 1};
        return random.nextInt(3) > 0 ? random.nextInt(6) : values[random.nextInt(values.length)];
    }

    private static void nothingThrows() throws ReflectiveOperationException {
        List<Method> methods = face();
        for (int run = 0; run < 60; run++) {
            Random random = new Random(run);
            LeftTurns x = new LeftTurns();
            for (int i = 0; i < 400; i++) {
                if (i % 200 == 0) {
                    Check.read(x, CITIES[random.nextInt(CITIES.length)]);
                }
                Method m = methods.get(random.nextInt(methods.size()));
                if (m.getName().equals("feed") && x.count(7) > 40) {
                    continue;
                }
                Object[] values = new Object[m.getParameterCount()];
                for (int j = 0; j < values.length; j++) {
                    long v = odd(random);
                    values[j] = m.getParameterTypes()[j] == long.class ? (Object) v : (Object) (int) v;
                }
                try {
                    m.invoke(x, values);
                } catch (InvocationTargetException e) {
                    CHECK.due(told(m) + " of " + Arrays.toString(values) + " threw " + e.getCause(), 1, 0);
                }
            }
        }
    }

    /** Questions and refused calls leave all as it was. */
    private static void refusedChangeNothing() throws ReflectiveOperationException {
        List<String> deeds = List.of("feed", "city", "go", "walk", "buy", "sell", "hand", "fog", "hours", "undo", "week", "numbers",
            "write", "lists", "restore");
        List<Method> methods = face();
        for (int run = 0; run < 20; run++) {
            Random random = new Random(run);
            LeftTurns x = Check.city(CITIES[3]);
            for (int i = 0; i < 200; i++) {
                Method m = methods.get(random.nextInt(methods.size()));
                if (m.getName().equals("feed") || m.getName().equals("city")) {
                    continue;
                }
                Object[] values = new Object[m.getParameterCount()];
                for (int j = 0; j < values.length; j++) {
                    long v = odd(random);
                    values[j] = m.getParameterTypes()[j] == long.class ? (Object) v : (Object) (int) v;
                }
                List<Long> before = Twins.seen(x);
                long answer = ((Number) m.invoke(x, values)).longValue();
                if (!deeds.contains(m.getName()) || answer < 0 && !m.getName().equals("write")) {
                    CHECK.due(told(m) + " of " + Arrays.toString(values) + " changes nothing", before.equals(Twins.seen(x)));
                }
            }
        }
    }
}
