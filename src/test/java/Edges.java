import java.lang.reflect.InvocationTargetException;
import java.lang.reflect.Method;
import java.util.ArrayList;
import java.util.Comparator;
import java.util.List;
import java.util.Set;
import java.util.TreeSet;

/**
 * What the tests of boundary cases ask with: the last value that is taken, the first that is refused, and that a
 * refused call leaves what all other calls show. Each test is a method of an EdgesOf.. class, named by its promise.
 */
final class Edges {
    static final int NONE = TrackCircuits.NONE, BAD = TrackCircuits.BAD, STATE = TrackCircuits.STATE;
    static final int FULL = TrackCircuits.FULL, MISSING = -11, OUTSIDE = -12, UNLIKE = -13, NEGATIVE = -14;
    static final int LEAST = Integer.MIN_VALUE, GREATEST = Integer.MAX_VALUE;

    interface Start {
        TrackCircuits make();
    }

    interface Call {
        int on(TrackCircuits x);
    }

    /** A call with one of its arguments left open. */
    interface Asked {
        int on(TrackCircuits x, int v);
    }

    private final Check check;
    private final Set<Integer> promises = new TreeSet<>();
    private String test = "";

    Edges(Check check) {
        this.check = check;
    }

    /** Runs all tests of a class: methods whose names begin with p and the promise's two digits. */
    void runAll(Class<?> tests) throws ReflectiveOperationException {
        List<Method> methods = new ArrayList<>(List.of(tests.getDeclaredMethods()));
        methods.removeIf(m -> !m.getName().matches("p\\d\\d[A-Z]\\w*"));
        methods.sort(Comparator.comparing(Method::getName));
        for (Method m : methods) {
            test = m.getName();
            promises.add(Integer.parseInt(test.substring(1, 3)));
            m.setAccessible(true);
            try {
                m.invoke(null, this);
            } catch (InvocationTargetException e) {
                check.holds(test + " threw " + e.getCause(), false);
            }
        }
    }

    /** Promises that have a test. */
    Set<Integer> promises() {
        return promises;
    }

    void due(String what, int got, int want) {
        check.due(test + ": " + what, got, want);
    }

    /** Several answers, one behind the other. */
    void dues(String what, int[] got, int... want) {
        due(what + ": how many", got.length, want.length);
        for (int i = 0; i < got.length && i < want.length; i++) {
            due(what + ": " + i, got[i], want[i]);
        }
    }

    /** A call on a new start is refused, and all that other calls show is as it was. */
    void refused(String what, Start start, Call call, int want) {
        due(what, call.on(start.make()), want);
        keeps(what, start, call);
    }

    /** Behind a call on a new start all that other calls show is as it was. */
    void keeps(String what, Start start, Call call) {
        TrackCircuits x = start.make();
        call.on(x);
        same(what, Shown.state(x), Shown.state(start.make()));
        TrackCircuits y = start.make();
        call.on(y);
        same(what, Shown.sheets(y), Shown.sheets(start.make()));
    }

    /** The first that is shown otherwise is told. */
    void same(String what, List<String> got, List<String> want) {
        String first = "";
        for (int i = 0; i < Math.max(got.size(), want.size()) && first.isEmpty(); i++) {
            String a = i < got.size() ? got.get(i) : "nothing";
            String b = i < want.size() ? want.get(i) : "nothing";
            first = a.equals(b) ? "" : a + ", due is " + b;
        }
        check.holds(test + ": " + what + ": then " + first, first.isEmpty());
    }

    /** The least v that is taken answers want; the one below it and the least int are refused. */
    void least(String what, Start start, Asked call, int v, int want, int refusal) {
        due(what + " " + v, call.on(start.make(), v), want);
        refused(what + " " + (v - 1), start, x -> call.on(x, v - 1), refusal);
        refused(what + " the least int", start, x -> call.on(x, LEAST), refusal);
    }

    /** The greatest v that is taken answers want; the one above it and the greatest int are refused. */
    void most(String what, Start start, Asked call, int v, int want, int refusal) {
        due(what + " " + v, call.on(start.make(), v), want);
        refused(what + " " + (v + 1), start, x -> call.on(x, v + 1), refusal);
        refused(what + " the greatest int", start, x -> call.on(x, GREATEST), refusal);
    }

    // ---- what tests start with

    static TrackCircuits none() {
        return new TrackCircuits();
    }

    static TrackCircuits one() {
        return Check.yard(Check.row(0, 40, 0, 1));
    }

    /** No SECTIONS, but SHEETS and a TAPE. */
    static TrackCircuits bare() {
        TrackCircuits x = new TrackCircuits();
        laySheets(x);
        Check.feedAll(x, "weather 7");
        return x;
    }

    /** Three SECTIONS, and some of everything else. */
    static TrackCircuits some() {
        TrackCircuits x = Check.yard(Check.row(0, 40, 2, 5), Check.row(2, 30, 0, 1));
        x.fault(1, 0);
        x.moment();
        x.image();
        x.section(1, 55, 3, 4);
        x.fault(2, 1);
        x.fault(3, 2);
        x.train(1, 1);
        x.moment();
        x.rule(0, 22);
        x.rule(1, 11);
        x.rule(2, 3);
        laySheets(x);
        Check.feedAll(x, "train 0;fault 0 1;moment");
        return x;
    }

    /** As many SECTIONS, FAULTS and bytes as there may be. */
    static TrackCircuits full() {
        TrackCircuits x = new TrackCircuits();
        for (int s = 0; s < 8; s++) {
            x.section(s % 6, 30 + 9 * s, s, 9 - s);
        }
        x.image();
        x.moment();
        for (int i = 0; i < 6; i++) {
            x.fault((i + 2) % 4, i + 1);
        }
        x.train(0, 1);
        x.train(6, 1);
        x.moment();
        laySheets(x);
        Check.feedAll(x, "mend 1;gone 6;train 5;weather 4;fault 1 2;moment;drop;moment");
        return x;
    }

    /** A yard whose every MOMENT FLAPS, behind one that didn't. */
    static TrackCircuits flapping() {
        TrackCircuits x = Check.yard(Check.row(0, 40, 0, 1));
        x.moment();
        x.section(4, 40, 0, 1);
        x.section(5, 40, 0, 1);
        x.force(1, 1);
        x.image();
        x.train(0, 1);
        laySheets(x);
        Check.feedAll(x, "gone 0;moment");
        return x;
    }

    /** SHEET 0: eight shorts, 1: forty ints (both rows of SECTIONS), 2: an empty row, 3: missing. */
    static void laySheets(TrackCircuits x) {
        x.sheet(0, 0, 8);
        x.sheet(1, 1, 40);
        x.sheet(2, 0, 0);
        int[] shorts = {0, 40, 2, 3, 4, 50, 1, 9};
        int[] ints = {5, 41, 3, 4, 1, 60, 7, 8};
        for (int i = 0; i < 8; i++) {
            x.put(0, i, shorts[i]);
            x.put(1, i, ints[i]);
        }
        x.copy(1, 0, 1, 8, 8);
        x.copy(1, 0, 1, 16, 16);
        x.copy(1, 0, 1, 32, 8);
        x.put(1, 37, 61);
    }

    static int[] whoAll(TrackCircuits x) {
        return Check.row(x.who(0), x.who(1), x.who(2), x.who(3), x.who(4));
    }

    static int[] countAll(TrackCircuits x) {
        return Check.row(x.count(0), x.count(1), x.count(2), x.count(3), x.count(4));
    }

    static void lay(TrackCircuits x, int sheet, int sort, int... items) {
        x.sheet(sheet, sort, items.length);
        for (int i = 0; i < items.length; i++) {
            x.put(sheet, i, items[i]);
        }
    }
}
