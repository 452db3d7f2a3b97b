import java.util.ArrayList;
import java.util.List;

/** Counts answers that are not as due, tells them, and ends the program by them. */
final class Check {
    private final List<String> wrong = new ArrayList<>();
    private int asked;

    /** One answer against the one that is due. */
    void due(String call, int got, int want) {
        asked++;
        if (got != want) {
            wrong.add(call + " answered " + got + ", due is " + want);
        }
    }

    void holds(String what, boolean is) {
        asked++;
        if (!is) {
            wrong.add(what);
        }
    }

    void end(String name) {
        for (int i = 0; i < wrong.size() && i < 30; i++) {
            System.out.println(name + ": " + wrong.get(i));
        }
        System.out.println(name + ": " + asked + " asked, " + wrong.size() + " not as due");
        if (!wrong.isEmpty()) {
            System.exit(1);
        }
    }

    /** Feeds a text to the tape, five bytes a call. */
    static int feedAll(TrackCircuits x, String text) {
        int has = x.count(2);
        for (int i = 0; i < text.length(); i += 5) {
            int n = Math.min(5, text.length() - i);
            int[] b = new int[5];
            for (int k = 0; k < n; k++) {
                b[k] = text.charAt(i + k);
            }
            has = x.feed(n, b[0], b[1], b[2], b[3], b[4]);
        }
        return has;
    }

    static int read(TrackCircuits x, String text) {
        feedAll(x, text);
        return x.text();
    }

    /** Sections from rows of KIND, FEED, LOSS, LENGTH. */
    static TrackCircuits yard(int[]... sections) {
        TrackCircuits x = new TrackCircuits();
        for (int[] s : sections) {
            x.section(s[0], s[1], s[2], s[3]);
        }
        return x;
    }

    /** n PLAIN sections of FEED 50 without LOSS. */
    static TrackCircuits plain(int n) {
        TrackCircuits x = new TrackCircuits();
        for (int i = 0; i < n; i++) {
            x.section(0, 50, 0, 1);
        }
        return x;
    }

    /** A BACK and a GUARD that chase each other for ever. */
    static TrackCircuits flapping() {
        return yard(row(4, 40, 0, 1), row(5, 40, 0, 1));
    }

    /** The same pair, kept calm by a BACK till its SLOW neighbour goes UP in the third moment. */
    static TrackCircuits lateFlapping() {
        return yard(row(4, 40, 0, 1), row(5, 40, 0, 1), row(4, 40, 0, 1), row(1, 40, 0, 1));
    }

    static int[] row(int... numbers) {
        return numbers;
    }
}
