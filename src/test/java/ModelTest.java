import java.lang.reflect.InvocationTargetException;
import java.lang.reflect.Method;
import java.util.Random;
import java.util.TreeMap;

/** Runs of calls by lot, each answer held against the Model's; all relays, faults, sheets after each run. */
public final class ModelTest {
    private static final int[] ODD = {Integer.MIN_VALUE, Integer.MAX_VALUE, -100, -3, -2, -1, 100, 256, 1000};
    private static final String[] WORDS = {"section", "train", "gone", "fault", "mend", "weather", "moment", "drop",
        "sections", "mo", "x"};
    private static final int[] TAKES = {4, 1, 1, 2, 1, 1, 0, 0, 4, 0, 0};

    private final Random lot;
    private final Check check;
    private final Method[] methods;
    private final Method[] models;
    private TrackCircuits x;
    private Model model;
    private String told;

    private ModelTest(Check check, long seed) throws NoSuchMethodException {
        this.check = check;
        lot = new Random(seed);
        TreeMap<String, Method> byName = new TreeMap<>();
        for (Method m : TrackCircuits.class.getDeclaredMethods()) {
            if (java.lang.reflect.Modifier.isPublic(m.getModifiers())) {
                byName.put(m.getName(), m);
            }
        }
        methods = byName.values().toArray(new Method[0]);
        models = new Method[methods.length];
        for (int i = 0; i < methods.length; i++) {
            models[i] = Model.class.getDeclaredMethod(methods[i].getName(), methods[i].getParameterTypes());
        }
    }

    private int in(int least, int most) {
        return least + lot.nextInt(most - least + 1);
    }

    /** Mostly a number of that range, seldom one beside it or an odd one. */
    private int near(int least, int most) {
        int way = lot.nextInt(40);
        if (way == 0) {
            return ODD[lot.nextInt(ODD.length)];
        }
        if (way == 1) {
            return lot.nextBoolean() ? least - 1 : most + 1;
        }
        if (way == 2) {
            return lot.nextBoolean() ? least : most;
        }
        return in(least, most);
    }

    private int place() {
        return near(0, Math.max(0, x.count(0) - 1));
    }

    private int[] arguments(String name) {
        switch (name) {
            case "section": return Check.row(near(0, 5), near(1, 99), near(0, 9), near(1, 9));
            case "set": return trait();
            case "of": return Check.row(place(), near(0, 8));
            case "taken": return Check.row(place(), near(0, 5));
            case "rule": return rule();
            case "train": case "force": return Check.row(place(), near(0, 1));
            case "fault": return Check.row(near(0, 3), place());
            case "faultOf": return Check.row(near(0, 5), near(0, 2));
            case "mend": case "aspect": case "clears": case "seen": return Check.row(place());
            case "log": return Check.row(near(-1, 12));
            case "who": case "count": return Check.row(near(0, 4));
            case "run": return Check.row(near(0, 20), near(0, 3));
            case "order": case "bound": case "proof": case "pick": return Check.row(near(0, 1));
            case "drawn": return Check.row(lot.nextInt(), near(0, 9));
            case "chance": return Check.row(lot.nextInt(), near(1, 20), near(0, 9), near(0, 8), near(0, 1));
            case "tells": return Check.row(near(0, 3), place(), near(0, 1));
            case "film": return Check.row(near(0, 3), place(), near(0, 10));
            case "feed": return Check.row(near(1, 5), near(0, 255), near(0, 255), near(0, 255), near(0, 255), near(0, 255));
            case "load": return Check.row(near(0, 3), near(0, 1), near(0, 8), near(0, 8));
            case "sheet": return Check.row(near(0, 3), near(-1, 1), lot.nextBoolean() ? near(0, 10) : near(0, 40));
            case "put": return Check.row(near(0, 3), near(0, 9), lot.nextInt(4) == 0 ? lot.nextInt() : near(0, 5));
            case "copy": return Check.row(near(0, 3), near(0, 20), near(0, 3), near(0, 20), near(0, 12));
            default: return Check.row();
        }
    }

    private int[] trait() {
        int what = near(0, 3);
        int[][] ranges = {{1, 99}, {0, 9}, {1, 9}, {0, 5}};
        int[] range = what < 0 || what > 3 ? ranges[0] : ranges[what];
        return Check.row(place(), what, near(range[0], range[1]));
    }

    private int[] rule() {
        int rule = near(0, 2);
        // low ones are where relays differ
        return Check.row(rule, rule == 2 ? near(0, 9) : lot.nextInt(5) == 0 ? near(0, 99) : near(0, 45));
    }

    private void call(int i, int... arguments) throws IllegalAccessException {
        Object[] given = new Object[arguments.length];
        StringBuilder call = new StringBuilder(methods[i].getName()).append('(');
        for (int k = 0; k < given.length; k++) {
            given[k] = arguments[k];
            call.append(k > 0 ? ", " : "").append(arguments[k]);
        }
        int got = answer(methods[i], x, given);
        int want = answer(models[i], model, given);
        check.due(told + " " + call + ")", got, want);
    }

    private static int answer(Method m, Object on, Object[] given) throws IllegalAccessException {
        try {
            return (Integer) m.invoke(on, given);
        } catch (InvocationTargetException e) {
            if (e.getCause() instanceof Model.Refusal r) {
                return r.code;
            }
            throw new IllegalStateException(m.getName() + java.util.Arrays.toString(given), e.getCause());
        }
    }

    private void callNamed(String name, int... arguments) throws IllegalAccessException {
        for (int i = 0; i < methods.length; i++) {
            if (methods[i].getName().equals(name)) {
                call(i, arguments);
            }
        }
    }

    private String clause() {
        int word = lot.nextInt(8 + (lot.nextInt(6) == 0 ? 3 : 0));
        StringBuilder text = new StringBuilder(WORDS[word]);
        int takes = TAKES[word] + (lot.nextInt(25) == 0 ? in(-1, 1) : 0);
        for (int k = 0; k < takes; k++) {
            text.append(k == 0 && lot.nextInt(4) == 0 ? "" : lot.nextInt(8) == 0 ? "\n" : " ");
            text.append(lot.nextInt(60) == 0 ? 100 : word == 0 && k == 1 ? in(1, 99) : in(0, 6));
        }
        return text.toString();
    }

    private void readText() throws IllegalAccessException {
        StringBuilder text = new StringBuilder(lot.nextInt(5) == 0 ? " " : "");
        int clauses = in(1, 5);
        for (int i = 0; i < clauses; i++) {
            text.append(i > 0 ? ";" : "").append(clause()).append(lot.nextInt(6) == 0 ? " \n" : "");
        }
        if (lot.nextInt(8) == 0 && text.length() > 0) {
            text.setCharAt(lot.nextInt(text.length()), ";Az `{/:019\t ".charAt(lot.nextInt(13)));
        }
        for (int i = 0; i < text.length(); i += 5) {
            int n = Math.min(5, text.length() - i);
            int[] b = new int[6];
            b[0] = n;
            for (int k = 0; k < n; k++) {
                b[k + 1] = text.charAt(i + k);
            }
            callNamed("feed", b);
        }
        callNamed("text");
    }

    private void loadSheet() throws IllegalAccessException {
        int sheet = in(0, 3);
        int sort = in(0, 1);
        callNamed("sheet", sheet, sort, in(4, 14));
        for (int i = 0; i < 12; i++) {
            callNamed("put", sheet, i, i % 4 == 0 ? in(0, 5) : i % 4 == 1 ? in(0, 60) : in(0, 9));
        }
        callNamed("load", sheet, sort, near(0, 2), near(0, 3));
    }

    private void look() throws IllegalAccessException {
        for (int what = 0; what < 5; what++) {
            callNamed("who", what);
            callNamed("count", what);
        }
        int size = x.count(0);
        for (int s = 0; s < size; s++) {
            for (int what = 0; what < 9; what++) {
                callNamed("of", s, what);
            }
        }
        for (int i = 0; i < 6; i++) {
            callNamed("faultOf", i, 0);
            callNamed("faultOf", i, 1);
            callNamed("faultOf", i, 2);
        }
        for (int i = -1; i < 12; i++) {
            callNamed("log", i);
        }
    }

    private void runOnce(long seed, boolean isWithPick) throws IllegalAccessException {
        lot.setSeed(seed);
        told = "run " + seed + ":";
        x = new TrackCircuits();
        model = new Model();
        int size = in(0, 8);
        for (int i = 0; i < size; i++) {
            callNamed("section", in(0, 5), in(5, 60), in(0, 9), in(1, 9));
        }
        for (int i = 0; i < 150; i++) {
            int way = lot.nextInt(30);
            if (way == 0) {
                readText();
            } else if (way == 1) {
                loadSheet();
            } else if (way < 6) {
                callNamed("moment");
            } else {
                int m = lot.nextInt(methods.length);
                String name = methods[m].getName();
                boolean isDear = name.equals("pick") || name.equals("proof");
                boolean isRuinous = name.equals("drop") && lot.nextInt(3) > 0;
                if (!isRuinous && (!isDear || isWithPick)) {
                    call(m, arguments(name));
                }
            }
        }
        look();
    }

    public static void main(String[] args) throws ReflectiveOperationException {
        Check check = new Check();
        long from = args.length > 0 ? Long.parseLong(args[0]) : 1;
        int runs = args.length > 1 ? Integer.parseInt(args[1]) : 1500;
        ModelTest test = new ModelTest(check, from);
        for (int i = 0; i < runs; i++) {
            test.runOnce(from + i, i % 10 == 0);
        }
        check.end("ModelTest");
    }
}
