import java.util.ArrayDeque;
import java.util.ArrayList;
import java.util.Deque;
import java.util.List;

/**
 * The document said a second time, as plainly as can be and without care for room or speed:
 * objects, lists, exceptions. ModelTest holds TrackCircuits against it.
 */
final class Model {
    static final class Refusal extends RuntimeException {
        private static final long serialVersionUID = 1;
        final int code;

        Refusal(int code) {
            super(null, null, false, false);
            this.code = code;
        }
    }

    static final class Flaps extends RuntimeException {
        private static final long serialVersionUID = 1;

        Flaps() {
            super(null, null, false, false);
        }
    }

    static final class Section {
        int kind;
        int feed;
        int loss;
        int length;
        boolean isUp;
        int waits;
        boolean hasTrain;

        Section copied() {
            Section s = new Section();
            s.kind = kind;
            s.feed = feed;
            s.loss = loss;
            s.length = length;
            s.isUp = isUp;
            s.waits = waits;
            s.hasTrain = hasTrain;
            return s;
        }
    }

    record Fault(int kind, Section at, int place, int caught) { }

    /** What an image keeps. */
    static final class World {
        final List<Section> row = new ArrayList<>();
        final List<Fault> faults = new ArrayList<>();
        int[] rules = {20, 10, 1};

        World copied() {
            World w = new World();
            for (Section s : row) {
                w.row.add(s.copied());
            }
            for (Fault f : faults) {
                w.faults.add(new Fault(f.kind, w.row.get(f.place), f.place, f.caught));
            }
            w.rules = rules.clone();
            return w;
        }

        void addFault(int kind, int place) {
            int caught = 0;
            if (kind == 2 && place + 1 < row.size()) {
                caught = row.get(place + 1).feed / 2;
            }
            faults.add(new Fault(kind, row.get(place), place, caught));
        }

        int leak(Section s) {
            return s.loss * s.length * rules[2] / 10;
        }

        int current(Section s) {
            int c = s.feed - leak(s);
            if (c < 0) {
                c = 0;
            }
            boolean hasRust = false;
            for (Fault f : faults) {
                if (f.at == s) {
                    if (f.kind == 0) {
                        c = leak(s) / 2;
                    } else if (f.kind == 1) {
                        c = c / 2;
                    } else if (f.kind == 2) {
                        c = c + f.caught;
                        if (c > 999) {
                            c = 999;
                        }
                    } else {
                        hasRust = true;
                    }
                }
            }
            if (s.hasTrain) {
                return hasRust ? c / 4 : 0;
            }
            return c;
        }

        boolean plain(Section s, int c) {
            if (c >= rules[0]) {
                return true;
            }
            return c >= rules[1] && s.isUp;
        }

        boolean slow(Section s, int c) {
            if (!s.isUp && s.waits < 2) {
                return false;
            }
            return plain(s, c);
        }

        boolean stick(int i, int c) {
            Section s = row.get(i);
            if (i > 0 && !s.isUp && !row.get(i - 1).isUp) {
                return false;
            }
            return plain(s, c);
        }

        boolean goesUp(int i) {
            Section s = row.get(i);
            int c = current(s);
            Section left = i > 0 ? row.get(i - 1) : null;
            Section right = i + 1 < row.size() ? row.get(i + 1) : null;
            if (s.kind == 0) {
                return plain(s, c);
            }
            if (s.kind == 1) {
                return slow(s, c);
            }
            if (s.kind == 2) {
                return stick(i, c);
            }
            if (s.kind == 3) {
                return slow(s, right != null && !right.isUp ? c / 2 : c);
            }
            if (s.kind == 4) {
                return right != null && right.isUp ? false : plain(s, c);
            }
            List<Section> beside = new ArrayList<>();
            if (left != null) {
                beside.add(left);
            }
            if (right != null) {
                beside.add(right);
            }
            boolean someUp = false;
            for (Section b : beside) {
                someUp = someUp || b.isUp;
            }
            if (!beside.isEmpty() && !someUp) {
                return false;
            }
            return stick(i, c);
        }

        static boolean looksLeft(int kind) {
            return kind == 2 || kind == 5;
        }

        static boolean looksRight(int kind) {
            return kind == 3 || kind == 4 || kind == 5;
        }

        /** The asked MOMENT on a copy: what changed; the copy is in `next`. */
        List<Integer> passes(boolean fromLast) {
            boolean[] were = new boolean[row.size()];
            Deque<Integer> queue = new ArrayDeque<>();
            for (int i = 0; i < row.size(); i++) {
                were[i] = row.get(i).isUp;
                if (fromLast) {
                    queue.addFirst(i);
                } else {
                    queue.addLast(i);
                }
            }
            List<Integer> changes = new ArrayList<>();
            while (!queue.isEmpty()) {
                int i = queue.removeFirst();
                Section s = row.get(i);
                boolean goes = goesUp(i);
                if (goes != s.isUp) {
                    if (changes.size() == 40) {
                        for (int k = 0; k < were.length; k++) {
                            row.get(k).isUp = were[k];
                        }
                        throw new Flaps();
                    }
                    s.isUp = goes;
                    changes.add(i * 10 + (goes ? 1 : 0));
                    if (i > 0 && looksRight(row.get(i - 1).kind) && !queue.contains(i - 1)) {
                        queue.addLast(i - 1);
                    }
                    if (i + 1 < row.size() && looksLeft(row.get(i + 1).kind) && !queue.contains(i + 1)) {
                        queue.addLast(i + 1);
                    }
                }
            }
            for (Section s : row) {
                s.waits = current(s) >= rules[0] ? Math.min(3, s.waits + 1) : 0;
            }
            return changes;
        }

        void move() {
            for (int i = row.size() - 1; i >= 0; i--) {
                row.get(i).hasTrain = i > 0 && row.get(i - 1).hasTrain;
            }
        }

        boolean isTroubled(int i) {
            if (row.get(i).hasTrain) {
                return true;
            }
            for (Fault f : faults) {
                if (f.kind == 0 && f.place == i) {
                    return true;
                }
            }
            return false;
        }

        /** 0 UP, 1 UNSAFE, 2 WRONG, 3 TRAINS, 4 BREAKS. */
        int bits(int what) {
            int bits = 0;
            for (int i = 0; i < row.size(); i++) {
                Section s = row.get(i);
                boolean is = false;
                if (what == 0) {
                    is = s.isUp;
                } else if (what == 1) {
                    is = isTroubled(i) && s.isUp;
                } else if (what == 2) {
                    is = !isTroubled(i) && !s.isUp;
                } else if (what == 3) {
                    is = s.hasTrain;
                } else {
                    for (Fault f : faults) {
                        is = is || f.kind == 0 && f.place == i;
                    }
                }
                if (is) {
                    bits += 1 << i;
                }
            }
            return bits;
        }

        int many(int what) {
            return Integer.bitCount(bits(what));
        }
    }

    record Sheet(int sort, int[] items) { }

    private World w = new World();
    private World image;
    private List<Integer> log = new ArrayList<>();
    private final StringBuilder tape = new StringBuilder();
    private final Sheet[] sheets = new Sheet[4];

    private static void refuse(boolean is, int code) {
        if (is) {
            throw new Refusal(code);
        }
    }

    private static void bad(int v, int least, int most) {
        refuse(v < least || v > most, -2);
    }

    private void badSection(int i) {
        bad(i, 0, w.row.size() - 1);
    }

    private static void badTrait(int what, int v) {
        bad(what, 0, 3);
        int[] least = {1, 0, 1, 0};
        int[] most = {99, 9, 9, 5};
        bad(v, least[what], most[what]);
    }

    public int section(int kind, int feed, int loss, int length) {
        badTrait(3, kind);
        badTrait(0, feed);
        badTrait(1, loss);
        badTrait(2, length);
        refuse(w.row.size() == 8, -4);
        Section s = new Section();
        s.kind = kind;
        s.feed = feed;
        s.loss = loss;
        s.length = length;
        w.row.add(s);
        return w.row.size() - 1;
    }

    public int drop() {
        refuse(w.row.isEmpty(), -3);
        int last = w.row.size() - 1;
        w.row.remove(last);
        w.faults.removeIf(f -> f.place == last);
        return last;
    }

    public int set(int section, int what, int v) {
        badSection(section);
        badTrait(what, v);
        Section s = w.row.get(section);
        int was = of(section, what);
        if (what == 0) {
            s.feed = v;
        } else if (what == 1) {
            s.loss = v;
        } else if (what == 2) {
            s.length = v;
        } else {
            s.kind = v;
        }
        return was;
    }

    public int of(int section, int what) {
        badSection(section);
        bad(what, 0, 8);
        Section s = w.row.get(section);
        int looks = (World.looksLeft(s.kind) ? 1 : 0) + (World.looksRight(s.kind) ? 2 : 0);
        int[] all = {s.feed, s.loss, s.length, s.kind, w.leak(s), w.current(s), s.isUp ? 1 : 0, s.waits, looks};
        return all[what];
    }

    public int taken(int section, int k) {
        badSection(section);
        bad(k, 0, 5);
        String[] lines = {"0", "10", "20", "310", "40", "520"};
        Section s = w.row.get(section);
        refuse(lines[s.kind].indexOf('0' + k) < 0, -13);
        return s.feed;
    }

    public int rule(int rule, int v) {
        bad(rule, 0, 2);
        bad(v, 0, rule == 2 ? 9 : 99);
        int was = w.rules[rule];
        w.rules[rule] = v;
        return was;
    }

    public int train(int section, int is) {
        badSection(section);
        bad(is, 0, 1);
        Section s = w.row.get(section);
        int was = s.hasTrain ? 1 : 0;
        s.hasTrain = is == 1;
        return was;
    }

    public int moves() {
        w.move();
        return w.bits(3);
    }

    public int force(int section, int is) {
        badSection(section);
        bad(is, 0, 1);
        Section s = w.row.get(section);
        int was = s.isUp ? 1 : 0;
        s.isUp = is == 1;
        s.waits = 0;
        return was;
    }

    public int fault(int kind, int section) {
        bad(kind, 0, 3);
        badSection(section);
        refuse(w.faults.size() == 6, -4);
        w.addFault(kind, section);
        return w.faults.size();
    }

    public int faultOf(int i, int what) {
        bad(i, 0, w.faults.size() - 1);
        bad(what, 0, 2);
        Fault f = w.faults.get(i);
        return what == 0 ? f.kind : what == 1 ? f.place : f.caught;
    }

    public int mend(int section) {
        badSection(section);
        int were = w.faults.size();
        w.faults.removeIf(f -> f.place == section);
        return were - w.faults.size();
    }

    public int moment() {
        World next = w.copied();
        List<Integer> changes;
        try {
            changes = next.passes(false);
        } catch (Flaps f) {
            return -3;
        }
        w = next;
        log = changes;
        return changes.size();
    }

    public int log(int i) {
        refuse(i < -1, -2);
        return i == -1 ? log.size() : i < log.size() ? log.get(i) : -1;
    }

    public int who(int what) {
        bad(what, 0, 4);
        return w.bits(what);
    }

    public int aspect(int section) {
        badSection(section);
        if (!w.row.get(section).isUp) {
            return 0;
        }
        return section + 1 < w.row.size() && !w.row.get(section + 1).isUp ? 1 : 2;
    }

    public int run(int n, int what) {
        bad(n, 0, 20);
        bad(what, 0, 3);
        World t = w.copied();
        int unsafe = 0;
        int changes = 0;
        for (int i = 0; i < n; i++) {
            try {
                changes += t.passes(false).size();
            } catch (Flaps f) {
                return -3;
            }
            unsafe += t.many(1);
            t.move();
        }
        return what == 0 ? t.bits(0) : what == 1 ? unsafe : what == 2 ? changes : t.bits(3);
    }

    public int clears(int section) {
        badSection(section);
        World t = w.copied();
        for (int i = 1; i <= 20; i++) {
            try {
                t.passes(false);
            } catch (Flaps f) {
                return -1;
            }
            if (t.row.get(section).isUp) {
                return i;
            }
        }
        return -1;
    }

    public int order(int what) {
        bad(what, 0, 1);
        try {
            World one = w.copied();
            World other = w.copied();
            one.passes(false);
            int changes = other.passes(true).size();
            return what == 1 ? changes : one.bits(0) == other.bits(0) ? 1 : 0;
        } catch (Flaps f) {
            return -3;
        }
    }

    /** The world behind a MOMENT, or null: it FLAPS. */
    private static World behind(World from) {
        World t = from.copied();
        try {
            t.passes(false);
            return t;
        } catch (Flaps f) {
            return null;
        }
    }

    public int seen(int section) {
        badSection(section);
        World t = w.copied();
        t.addFault(0, section);
        t = behind(t);
        return t != null && !t.row.get(section).isUp ? 1 : 0;
    }

    public int bound(int what) {
        bad(what, 0, 1);
        int found = -1;
        for (int weather = 0; weather <= 9; weather++) {
            World t = w.copied();
            t.rules[2] = weather;
            if (what == 0) {
                t = behind(t);
                if (t != null && t.bits(2) == 0) {
                    found = weather;
                }
            } else {
                for (int s = 0; s < w.row.size(); s++) {
                    World b = t.copied();
                    b.addFault(0, s);
                    b = behind(b);
                    if (b != null && b.row.get(s).isUp && found == -1) {
                        found = weather;
                    }
                }
            }
        }
        return found;
    }

    /** All CASES that fail, as 100 times f, and t. */
    private List<Integer> failing(int pick, boolean untilOne) {
        List<Integer> all = new ArrayList<>();
        int size = w.row.size();
        for (int f = 0; f <= 4 * size; f++) {
            for (int t = 0; t <= size; t++) {
                World c = w.copied();
                c.rules[0] = pick;
                if (f > 0) {
                    c.addFault((f - 1) % 4, (f - 1) / 4);
                }
                if (t > 0) {
                    c.row.get(t - 1).hasTrain = true;
                }
                c = behind(c);
                if (c == null || c.bits(1) != 0) {
                    all.add(100 * f + t);
                    if (untilOne) {
                        return all;
                    }
                }
            }
        }
        return all;
    }

    public int proof(int what) {
        bad(what, 0, 1);
        List<Integer> all = failing(w.rules[0], false);
        return what == 0 ? all.size() : all.isEmpty() ? -1 : all.get(0);
    }

    public int pick(int what) {
        bad(what, 0, 1);
        int found = -1;
        for (int pick = 0; pick <= 99; pick++) {
            if (what == 0) {
                if (failing(pick, true).isEmpty()) {
                    return pick;
                }
            } else {
                World t = w.copied();
                t.rules[0] = pick;
                t = behind(t);
                if (t != null && t.bits(2) == 0) {
                    found = pick;
                }
            }
        }
        return found;
    }

    private static int trouble(World from) {
        World t = behind(from);
        return t == null ? 16 : t.many(1) + t.many(2);
    }

    public int fix() {
        int with = trouble(w);
        int best = -1;
        int fewest = 99;
        for (int i = 0; i < w.faults.size(); i++) {
            World t = w.copied();
            t.faults.remove(i);
            int is = trouble(t);
            if (is < with && is < fewest) {
                fewest = is;
                best = i;
            }
        }
        return best;
    }

    private int lot(int seed, int n) {
        World t = w.copied();
        int z = seed;
        for (int i = 0; i < n; i++) {
            z = z * 1103515245 + 12345;
            t.addFault((z >>> 9) % 4, (z >>> 16) % t.row.size());
        }
        t = behind(t);
        return t == null ? 9 : t.many(1);
    }

    public int drawn(int seed, int n) {
        bad(n, 0, 9);
        refuse(w.row.isEmpty(), -2);
        return lot(seed, n);
    }

    public int chance(int seed, int m, int n, int k, int part) {
        bad(m, 1, 20);
        bad(n, 0, 9);
        bad(k, 0, 8);
        bad(part, 0, 1);
        refuse(w.row.isEmpty(), -2);
        int above = 0;
        for (int i = 0; i < m; i++) {
            if (lot(seed + i, n) >= k) {
                above++;
            }
        }
        int below = m;
        for (int d = 20; d > 1; d--) {
            if (above % d == 0 && below % d == 0) {
                above /= d;
                below /= d;
            }
        }
        return part == 0 ? above : below;
    }

    private int otherwise(int[] told, int section, int kind) {
        World t = w.copied();
        t.row.get(section).kind = kind;
        for (int i = 0; i < told.length; i++) {
            try {
                t.passes(false);
            } catch (Flaps f) {
                return i;
            }
            if ((t.row.get(section).isUp ? 1 : 0) != told[i]) {
                return i;
            }
            t.move();
        }
        return -1;
    }

    public int tells(int sheet, int section, int what) {
        bad(sheet, 0, 3);
        badSection(section);
        bad(what, 0, 1);
        refuse(sheets[sheet] == null, -11);
        int[] told = sheets[sheet].items;
        refuse(told.length > 10, -2);
        if (what == 0) {
            return otherwise(told, section, w.row.get(section).kind);
        }
        int kinds = 0;
        for (int k = 0; k < 6; k++) {
            kinds += otherwise(told, section, k) == -1 ? 1 << k : 0;
        }
        return kinds;
    }

    public int film(int sheet, int section, int n) {
        bad(sheet, 0, 3);
        badSection(section);
        bad(n, 0, 10);
        World t = w.copied();
        int[] told = new int[n];
        for (int i = 0; i < n; i++) {
            try {
                t.passes(false);
            } catch (Flaps f) {
                return -3;
            }
            told[i] = t.row.get(section).isUp ? 1 : 0;
            t.move();
        }
        sheets[sheet] = new Sheet(0, told);
        return n;
    }

    public int feed(int n, int a, int b, int c, int d, int e) {
        bad(n, 1, 5);
        int[] all = {a, b, c, d, e};
        for (int v : all) {
            bad(v, 0, 255);
        }
        refuse(tape.length() + n > 60, -4);
        for (int i = 0; i < n; i++) {
            tape.append((char) all[i]);
        }
        return tape.length();
    }

    /** A TOKEN: its first byte's place, what it is; kind: w word, n number, s sign, ! none, e end. */
    record Token(char kind, int place, String text) { }

    private static List<Token> tokens(String text) {
        List<Token> all = new ArrayList<>();
        int i = 0;
        while (i < text.length()) {
            char c = text.charAt(i);
            int j = i + 1;
            if (c == ' ' || c == '\n') {
                i = j;
                continue;
            }
            char kind = '!';
            if (c == ';') {
                kind = 's';
            } else if (c >= 'a' && c <= 'z') {
                kind = 'w';
                while (j < text.length() && text.charAt(j) >= 'a' && text.charAt(j) <= 'z') {
                    j++;
                }
            } else if (c >= '0' && c <= '9') {
                while (j < text.length() && text.charAt(j) >= '0' && text.charAt(j) <= '9') {
                    j++;
                }
                kind = j - i > 2 ? '!' : 'n';
            }
            all.add(new Token(kind, i, text.substring(i, j)));
            i = j;
        }
        all.add(new Token('e', text.length(), ""));
        return all;
    }

    public int text() {
        List<Token> all = tokens(tape.toString());
        tape.setLength(0);
        List<String> words = List.of("section", "train", "gone", "fault", "mend", "weather", "moment", "drop");
        int[] takes = {4, 1, 1, 2, 1, 1, 0, 0};
        List<int[]> clauses = new ArrayList<>();
        int at = 0;
        while (true) {
            Token t = all.get(at++);
            int word = words.indexOf(t.text);
            if (t.kind != 'w' || word < 0) {
                return -100 - t.place;
            }
            int[] clause = new int[5];
            clause[0] = word;
            for (int k = 1; k <= takes[word]; k++) {
                t = all.get(at++);
                if (t.kind != 'n') {
                    return -100 - t.place;
                }
                clause[k] = Integer.parseInt(t.text);
            }
            clauses.add(clause);
            t = all.get(at++);
            if (t.kind == 'e') {
                break;
            }
            if (t.kind != 's') {
                return -100 - t.place;
            }
        }
        int done = 0;
        for (int[] c : clauses) {
            try {
                done += answer(c) >= 0 ? 1 : 0;
            } catch (Refusal r) {
                // one that is refused isn't done
            }
        }
        return done;
    }

    private int answer(int[] c) {
        switch (c[0]) {
            case 0: return section(c[1], c[2], c[3], c[4]);
            case 1: return train(c[1], 1);
            case 2: return train(c[1], 0);
            case 3: return fault(c[1], c[2]);
            case 4: return mend(c[1]);
            case 5: return rule(2, c[1]);
            case 6: return moment();
            default: return drop();
        }
    }

    public int image() {
        image = w.copied();
        return w.row.size();
    }

    public int back() {
        refuse(image == null, -3);
        w = image.copied();
        return w.row.size();
    }

    public int load(int sheet, int sort, int from, int n) {
        bad(sheet, 0, 3);
        bad(sort, 0, 1);
        bad(n, 0, 8);
        refuse(sheets[sheet] == null, -11);
        refuse(sheets[sheet].sort != sort, -13);
        int came = 0;
        for (int i = 0; i < n; i++) {
            int[] four = new int[4];
            for (int k = 0; k < 4; k++) {
                long place = (long) from + 4 * i + k;
                refuse(place < 0 || place >= sheets[sheet].items.length, -12);
                four[k] = sheets[sheet].items[(int) place];
            }
            try {
                section(four[0], four[1], four[2], four[3]);
                came++;
            } catch (Refusal r) {
                // others are left out
            }
        }
        return came;
    }

    public int count(int what) {
        bad(what, 0, 4);
        int all = 0;
        for (Section s : w.row) {
            all += w.current(s);
        }
        int[] many = {w.row.size(), w.faults.size(), tape.length(), w.many(3), all};
        return many[what];
    }

    public int sheet(int sheet, int sort, int n) {
        bad(sheet, 0, 3);
        bad(sort, -1, 1);
        if (sort == -1) {
            sheets[sheet] = null;
            return 1;
        }
        refuse(n > 40, -2);
        refuse(n < 0, -14);
        sheets[sheet] = new Sheet(sort, new int[n]);
        return 1;
    }

    public int put(int sheet, int i, int v) {
        bad(sheet, 0, 3);
        refuse(sheets[sheet] == null, -11);
        refuse(i < 0 || i >= sheets[sheet].items.length, -12);
        sheets[sheet].items[i] = sheets[sheet].sort == 0 ? (short) v : v;
        return 1;
    }

    public int copy(int sheet, int i, int other, int j, int n) {
        bad(sheet, 0, 3);
        bad(other, 0, 3);
        Sheet from = sheets[sheet];
        Sheet to = sheets[other];
        refuse(from == null || to == null, -11);
        refuse(from.sort != to.sort, -13);
        refuse(n < 0 || i < 0 || j < 0, -12);
        refuse((long) i + n > from.items.length || (long) j + n > to.items.length, -12);
        int[] were = from.items.clone();
        for (int k = 0; k < n; k++) {
            to.items[j + k] = were[i + k];
        }
        return n;
    }
}
