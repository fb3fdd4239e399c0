import java.util.ArrayList;
import java.util.List;
import java.util.function.Consumer;
import java.util.function.ToLongFunction;

/** Pairs of objects that were told the same: what a call has changed in the one is seen beside the other. */
final class Twins {
    private static final long WIDE_NUMBER = (1L << 40) + (1L << 31) + (1L << 15) + 200;

    private final Check check;
    private final Consumer<LeftTurns> telling;

    Twins(Check check, Consumer<LeftTurns> telling) {
        this.check = check;
        this.telling = telling;
    }

    private LeftTurns told() {
        LeftTurns x = new LeftTurns();
        telling.accept(x);
        return x;
    }

    /** The same told, and more. */
    Twins and(Consumer<LeftTurns> more) {
        return new Twins(check, telling.andThen(more));
    }

    /** The call answers so, and nothing has changed behind it. */
    void refused(String call, long answer, ToLongFunction<LeftTurns> asked) {
        LeftTurns one = told();
        LeftTurns other = told();
        check.due(call, asked.applyAsLong(one), answer);
        alike(check, call, one, other);
    }

    /** Behind some calls all is as it was ahead of them, but for the fault of the latest text. */
    void leftAlone(String call, Consumer<LeftTurns> done) {
        LeftTurns one = told();
        LeftTurns other = told();
        done.accept(one);
        check.due(call + " changes nothing, first difference", difference(seen(one), seen(other)), -1);
        check.due(call + " changes nothing behind, first difference", difference(behind(one), behind(other)), -1);
    }

    /** Looks at all of both; they are of no use then. */
    static void alike(Check check, String call, LeftTurns one, LeftTurns other) {
        check.due("fault(0) behind " + call, one.fault(0), other.fault(0));
        check.due("fault(1) behind " + call, one.fault(1), other.fault(1));
        check.due(call + " changes nothing, first difference", difference(seen(one), seen(other)), -1);
        check.due(call + " changes nothing behind, first difference", difference(behind(one), behind(other)), -1);
    }

    private static int difference(List<Long> one, List<Long> other) {
        for (int i = 0; i < Math.max(one.size(), other.size()); i++) {
            if (i >= one.size() || i >= other.size() || !one.get(i).equals(other.get(i))) {
                return i;
            }
        }
        return -1;
    }

    /** What can be asked without changing anything; the fault of the latest text aside. */
    static List<Long> seen(LeftTurns x) {
        List<Long> all = new ArrayList<>();
        glance(x, all);
        for (int c = 0; c < x.count(0) * x.count(1); c++) {
            for (int what = 0; what < 5; what++) {
                all.add((long) x.crossing(c, what));
            }
        }
        for (int tray = 0; tray < 4; tray++) {
            for (int what = 0; what < 4; what++) {
                all.add((long) x.judge(tray, what));
                all.add((long) x.round(0, tray, 10 + what));
            }
            all.add((long) x.found(0, tray, 2));
        }
        return all;
    }

    private static void glance(LeftTurns x, List<Long> all) {
        for (int what = 0; what < 10; what++) {
            all.add((long) x.count(what));
        }
        for (int p = 0; p < x.count(2); p++) {
            for (int what = 0; what < 5; what++) {
                all.add((long) x.person(p, what));
            }
        }
        for (int c = 0; c < x.count(0) * x.count(1); c += 3) {
            all.add((long) x.crossing(c, 1));
            all.add((long) x.crossing(c, 3));
        }
    }

    /** What can be undone, the images, the trays' sorts and sizes, the tape. */
    private static List<Long> behind(LeftTurns x) {
        List<Long> all = new ArrayList<>();
        for (int i = 0; i < 10 && x.count(6) > 0; i++) {
            all.add((long) x.undo(1));
            glance(x, all);
        }
        for (int i = 0; i < 2; i++) {
            all.add((long) x.restore(i));
            glance(x, all);
        }
        for (int tray = 0; tray < 4; tray++) {
            for (int i : new int[] {0, 1, 2, 3, 4, 5, 10, 11, 39, 40}) {
                all.add(x.write(tray, i, WIDE_NUMBER));
            }
        }
        all.add((long) x.city(x.count(7)));
        all.add((long) x.fault(1));
        glance(x, all);
        return all;
    }
}
