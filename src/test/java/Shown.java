import java.util.ArrayList;
import java.util.List;

/**
 * All that calls show of an object, so that two made alike can be held against each other. It uses the object up
 * (the tape is read, the image laid back, sections dropped) and stays below the 512 calls that one is for.
 */
final class Shown {
    private final TrackCircuits x;
    private final List<String> shown = new ArrayList<>();

    private Shown(TrackCircuits x) {
        this.x = x;
    }

    /** All but what stands on SHEETS. */
    static List<String> state(TrackCircuits x) {
        Shown s = new Shown(x);
        s.yard();
        s.thought();
        s.log();
        s.add("text()", x.text());
        s.yard();
        s.log();
        s.add("back()", x.back());
        s.yard();
        return s.shown;
    }

    /** SHEETS: their sorts, sizes and, as SECTIONS, what stands on them; behind that what a SECTION shows. */
    static List<String> sheets(TrackCircuits x) {
        Shown s = new Shown(x);
        for (int i = 0; i < 9; i++) {
            s.add("drop()", x.drop());
        }
        for (int sheet = 0; sheet < 4; sheet++) {
            for (int sort = 0; sort < 2; sort++) {
                s.add("load(" + sheet + ", " + sort + ", 0, 0)", x.load(sheet, sort, 0, 0));
            }
            int size = sizeOf(x, sheet);
            s.add("size of " + sheet, size);
            for (int from = 0; from + 4 <= size; from += 32) {
                s.loaded(sheet, from, Math.min(8, (size - from) / 4));
            }
        }
        return s.shown;
    }

    /** How many items a SHEET has (-1: it is missing), by halving. */
    static int sizeOf(TrackCircuits x, int sheet) {
        int least = -1;
        int most = 40;
        while (least < most) {
            int middle = (least + most + 1) / 2;
            if (x.copy(sheet, 0, sheet, 0, middle) == middle) {
                least = middle;
            } else {
                most = middle - 1;
            }
        }
        return least;
    }

    private void add(String call, int answer) {
        shown.add(call + " answers " + answer);
    }

    private void loaded(int sheet, int from, int n) {
        add("load(" + sheet + ", .., " + from + ", " + n + ")",
            Math.max(x.load(sheet, 0, from, n), x.load(sheet, 1, from, n)));
        int size = x.count(0);
        for (int s = size - 1; s >= 0; s--) {
            for (int what = 0; what < 4; what++) {
                add("of(" + s + ", " + what + ") by sheet " + sheet + " from " + from, x.of(s, what));
            }
            x.drop();
        }
    }

    private void yard() {
        for (int what = 0; what < 5; what++) {
            add("count(" + what + ")", x.count(what));
            add("who(" + what + ")", x.who(what));
        }
        int size = x.count(0);
        for (int s = 0; s < size; s++) {
            for (int what = 0; what < 8; what++) {
                if (what != 6) {
                    add("of(" + s + ", " + what + ")", x.of(s, what));
                }
            }
        }
        int faults = x.count(1);
        for (int i = 0; i < faults; i++) {
            for (int what = 0; what < 3; what++) {
                add("faultOf(" + i + ", " + what + ")", x.faultOf(i, what));
            }
        }
        for (int rule = 0; rule < 3; rule++) {
            int was = x.rule(rule, 0);
            add("rule(" + rule + ", 0)", was);
            x.rule(rule, was);
        }
    }

    private void log() {
        int changes = x.log(-1);
        add("log(-1)", changes);
        for (int i = 0; i <= changes; i++) {
            add("log(" + i + ")", x.log(i));
        }
    }

    private void thought() {
        for (int what = 0; what < 4; what++) {
            add("run(4, " + what + ")", x.run(4, what));
        }
        for (int what = 0; what < 2; what++) {
            add("order(" + what + ")", x.order(what));
            add("bound(" + what + ")", x.bound(what));
            add("proof(" + what + ")", x.proof(what));
            add("pick(" + what + ")", x.pick(what));
            add("chance(7, 9, 3, 1, " + what + ")", x.chance(7, 9, 3, 1, what));
        }
        add("fix()", x.fix());
        add("drawn(3, 4)", x.drawn(3, 4));
        int size = x.count(0);
        for (int s = 0; s < size; s++) {
            add("aspect(" + s + ")", x.aspect(s));
            add("clears(" + s + ")", x.clears(s));
            add("seen(" + s + ")", x.seen(s));
        }
        for (int sheet = 0; sheet < 4; sheet++) {
            add("tells(" + sheet + ", 0, 1)", x.tells(sheet, 0, 1));
        }
    }
}
