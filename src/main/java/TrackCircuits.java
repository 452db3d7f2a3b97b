/**
 * Track circuits: sections in a row, their relays, trains and faults; moments in which relays
 * are asked till nothing changes, truly or in thought. Words in capitals are the document's.
 *
 * All rows are made in constructors and used again: no call makes an object.
 */
public final class TrackCircuits {
    public static final int NONE = -1, BAD = -2, STATE = -3, FULL = -4;

    private static final int MISSING = -11, OUTSIDE = -12, UNLIKE = -13, NEGATIVE = -14;

    private static final int MOST_SECTIONS = 8;
    private static final int MOST_FAULTS = 6;
    private static final int MOST_DRAWN = 9;
    private static final int MOST_CHANGES = 40;
    private static final int MOST_RUN = 20;
    private static final int MOST_TOLD = 10;
    private static final int MOST_WAITS = 3;
    private static final int MOST_WEATHER = 9;
    private static final int MOST_PICK = 99;
    private static final int MOST_CURRENT = 999;

    /** KINDS beside 0, PLAIN, as which a relay goes if nothing else is said. */
    private static final int SLOW = 1, STICK = 2, CODED = 3, BACKED = 4, GUARD = 5;
    private static final int KINDS = 6;
    /** The KIND right above each KIND (none above PLAIN). */
    private static final int[] ABOVE = {-1, 0, 0, 1, 0, 2};
    private static final int LEFT = 1, RIGHT = 2;
    /** LOOKS of each KIND. */
    private static final int[] LOOKS = {0, 0, 1, 2, 2, 3};

    private static final int BREAK = 0, WEAK = 1, CROSS = 2, RUST = 3;
    private static final int FAULT_KINDS = 4;

    private static final int FEED = 0, LOSS = 1, LENGTH = 2, KIND = 3;
    private static final int WEATHER = 2;

    private static final int SHEETS = 4;
    private static final int SHEET_ROOM = 40;
    private static final int SHORTS = 0, INTS = 1;

    private static final int TAPE_ROOM = 60;
    private static final int WORD_SECTION = 0, WORD_TRAIN = 1, WORD_GONE = 2, WORD_FAULT = 3;
    private static final int WORD_MEND = 4, WORD_WEATHER = 5, WORD_MOMENT = 6, WORD_DROP = 7;
    private static final int WORDS = 8;
    /** How many NUMBERS each WORD takes. */
    private static final int[] NUMBERS = {4, 1, 1, 2, 1, 1, 0, 0};
    private static final int MOST_NUMBERS = 4;
    /** The shortest WORD has 4 letters. */
    private static final int MOST_CLAUSES = TAPE_ROOM / 4;

    private final Yard yard;
    private final Yard kept;
    private boolean isKept;
    private final Asking asking;
    private final int[] latest;
    private int latestChanges;
    private final Mind mind;
    private final Tape tape;
    private final Sheets sheets;

    public TrackCircuits() {
        yard = new Yard();
        kept = new Yard();
        asking = new Asking();
        latest = new int[MOST_CHANGES];
        mind = new Mind(yard);
        tape = new Tape();
        sheets = new Sheets();
    }

    // ---- sections, trains, rules

    public int section(int kind, int feed, int loss, int length) {
        if (!isTrait(KIND, kind) || !isTrait(FEED, feed)) {
            return BAD;
        }
        if (!isTrait(LOSS, loss) || !isTrait(LENGTH, length)) {
            return BAD;
        }
        if (yard.size >= MOST_SECTIONS) {
            return FULL;
        }
        yard.addSection(kind, feed, loss, length);
        return yard.size - 1;
    }

    public int drop() {
        if (yard.size == 0) {
            return STATE;
        }
        yard.removeLast();
        return yard.size;
    }

    public int set(int section, int what, int v) {
        if (!yard.has(section) || !isTrait(what, v)) {
            return BAD;
        }
        int was = of(section, what);
        yard.lay(section, what, v);
        return was;
    }

    public int of(int section, int what) {
        if (!yard.has(section)) {
            return BAD;
        }
        switch (what) {
            case 0:
                return yard.feeds[section];
            case 1:
                return yard.losses[section];
            case 2:
                return yard.lengths[section];
            case 3:
                return yard.kinds[section];
            case 4:
                return yard.leak(section);
            case 5:
                yard.measure();
                return yard.currents[section];
            case 6:
                return bit(yard.up, section);
            case 7:
                return yard.waits[section];
            case 8:
                return LOOKS[yard.kinds[section]];
            default:
                return BAD;
        }
    }

    public int taken(int section, int k) {
        if (!yard.has(section) || !isTrait(KIND, k)) {
            return BAD;
        }
        return isUnder(yard.kinds[section], k) ? yard.feeds[section] : UNLIKE;
    }

    public int rule(int rule, int v) {
        if (!isWithin(rule, 0, WEATHER)) {
            return BAD;
        }
        if (!isWithin(v, 0, rule == WEATHER ? MOST_WEATHER : MOST_PICK)) {
            return BAD;
        }
        return yard.layRule(rule, v);
    }

    public int train(int section, int is) {
        if (!yard.has(section) || !isWithin(is, 0, 1)) {
            return BAD;
        }
        int was = bit(yard.trains, section);
        yard.trains = withBit(yard.trains, section, is == 1);
        return was;
    }

    public int moves() {
        yard.moveTrains();
        return yard.trains;
    }

    public int force(int section, int is) {
        if (!yard.has(section) || !isWithin(is, 0, 1)) {
            return BAD;
        }
        int was = bit(yard.up, section);
        yard.up = withBit(yard.up, section, is == 1);
        yard.waits[section] = 0;
        return was;
    }

    // ---- faults

    public int fault(int kind, int section) {
        if (!isWithin(kind, 0, FAULT_KINDS - 1) || !yard.has(section)) {
            return BAD;
        }
        if (yard.faults.many >= MOST_FAULTS) {
            return FULL;
        }
        yard.addFault(kind, section);
        return yard.faults.many;
    }

    public int faultOf(int i, int what) {
        if (!isWithin(i, 0, yard.faults.many - 1)) {
            return BAD;
        }
        switch (what) {
            case 0:
                return yard.faults.kinds[i];
            case 1:
                return yard.faults.places[i];
            case 2:
                return yard.faults.caught[i];
            default:
                return BAD;
        }
    }

    public int mend(int section) {
        return yard.has(section) ? yard.faults.removeAt(section) : BAD;
    }

    // ---- moments

    public int moment() {
        if (!asking.passes(yard)) {
            return STATE;
        }
        latestChanges = asking.changed;
        System.arraycopy(asking.changes, 0, latest, 0, latestChanges);
        return latestChanges;
    }

    public int log(int i) {
        if (i < NONE) {
            return BAD;
        }
        if (i == NONE) {
            return latestChanges;
        }
        return i < latestChanges ? latest[i] : NONE;
    }

    public int who(int what) {
        switch (what) {
            case 0:
                return yard.up;
            case 1:
                return yard.unsafe();
            case 2:
                return yard.wrong();
            case 3:
                return yard.trains;
            case 4:
                return yard.faults.placesOf(BREAK);
            default:
                return BAD;
        }
    }

    public int aspect(int section) {
        if (!yard.has(section)) {
            return BAD;
        }
        if (yard.relay(section) == 0) {
            return 0;
        }
        return yard.relay(section + 1) == 0 ? 1 : 2;
    }

    public int run(int n, int what) {
        if (!isWithin(n, 0, MOST_RUN) || !isWithin(what, 0, 3)) {
            return BAD;
        }
        return mind.ran(n, what);
    }

    public int clears(int section) {
        return yard.has(section) ? mind.clearing(section) : BAD;
    }

    public int order(int what) {
        return isWithin(what, 0, 1) ? mind.fromLast(what) : BAD;
    }

    // ---- breaks, leaks, the proof

    public int seen(int section) {
        if (!yard.has(section)) {
            return BAD;
        }
        return mind.seesBreak(section) ? 1 : 0;
    }

    public int bound(int what) {
        if (!isWithin(what, 0, 1)) {
            return BAD;
        }
        return what == 0 ? mind.greatestFairWeather() : mind.leastBlindWeather();
    }

    public int proof(int what) {
        if (!isWithin(what, 0, 1)) {
            return BAD;
        }
        return what == 0 ? mind.failingCases() : mind.firstFailingCase(yard.pick);
    }

    public int pick(int what) {
        if (!isWithin(what, 0, 1)) {
            return BAD;
        }
        return what == 0 ? mind.leastSafePick() : mind.greatestFairPick();
    }

    public int fix() {
        return mind.faultToMend();
    }

    // ---- lots, what was told

    public int drawn(int seed, int n) {
        if (!isWithin(n, 0, MOST_DRAWN) || yard.size == 0) {
            return BAD;
        }
        return mind.unsafeByLot(seed, n);
    }

    public int chance(int seed, int m, int n, int k, int part) {
        if (!isWithin(m, 1, 20) || !isWithin(n, 0, MOST_DRAWN) || !isWithin(k, 0, 8)) {
            return BAD;
        }
        if (!isWithin(part, 0, 1) || yard.size == 0) {
            return BAD;
        }
        int above = mind.lotsWith(seed, m, n, k);
        int divisor = Math.max(1, greatestDivisor(m, above));
        return (part == 0 ? above : m) / divisor;
    }

    public int tells(int sheet, int section, int what) {
        if (!sheets.has(sheet) || !yard.has(section) || !isWithin(what, 0, 1)) {
            return BAD;
        }
        if (sheets.isMissing(sheet)) {
            return MISSING;
        }
        if (sheets.sizes[sheet] > MOST_TOLD) {
            return BAD;
        }
        if (what == 0) {
            return mind.firstOtherwise(sheets, sheet, section, yard.kinds[section]);
        }
        int kinds = 0;
        for (int kind = 0; kind < KINDS; kind++) {
            if (mind.firstOtherwise(sheets, sheet, section, kind) == NONE) {
                kinds |= 1 << kind;
            }
        }
        return kinds;
    }

    public int film(int sheet, int section, int n) {
        if (!sheets.has(sheet) || !yard.has(section) || !isWithin(n, 0, MOST_TOLD)) {
            return BAD;
        }
        int pictures = mind.pictures(section, n);
        if (pictures == NONE) {
            return STATE;
        }
        sheets.become(sheet, SHORTS, n);
        for (int i = 0; i < n; i++) {
            sheets.lay(sheet, i, bit(pictures, i));
        }
        return n;
    }

    // ---- texts

    public int feed(int n, int a, int b, int c, int d, int e) {
        if (!isWithin(n, 1, 5) || !isByte(a) || !isByte(b)) {
            return BAD;
        }
        if (!isByte(c) || !isByte(d) || !isByte(e)) {
            return BAD;
        }
        if (tape.size + n > TAPE_ROOM) {
            return FULL;
        }
        tape.add(a);
        if (n > 1) {
            tape.add(b);
        }
        if (n > 2) {
            tape.add(c);
        }
        if (n > 3) {
            tape.add(d);
        }
        if (n > 4) {
            tape.add(e);
        }
        return tape.size;
    }

    public int text() {
        int place = tape.placeOfFault();
        tape.size = 0;
        if (place != NONE) {
            return -100 - place;
        }
        int done = 0;
        for (int i = 0; i < tape.clauses; i++) {
            if (answerOfClause(i) >= 0) {
                done++;
            }
        }
        return done;
    }

    /** Does the i-th CLAUSE as if it were called: what the call answers (below 0: refused). */
    private int answerOfClause(int i) {
        int first = tape.number(i, 0);
        int second = tape.number(i, 1);
        switch (tape.words[i]) {
            case WORD_SECTION:
                return section(first, second, tape.number(i, 2), tape.number(i, 3));
            case WORD_TRAIN:
                return train(first, 1);
            case WORD_GONE:
                return train(first, 0);
            case WORD_FAULT:
                return fault(first, second);
            case WORD_MEND:
                return mend(first);
            case WORD_WEATHER:
                return rule(WEATHER, first);
            case WORD_MOMENT:
                return moment();
            case WORD_DROP:
                return drop();
            default:
                return BAD;
        }
    }

    // ---- the image, the host

    public int image() {
        kept.become(yard);
        isKept = true;
        return kept.size;
    }

    public int back() {
        if (!isKept) {
            return STATE;
        }
        yard.become(kept);
        return yard.size;
    }

    public int load(int sheet, int sort, int from, int n) {
        if (!sheets.has(sheet) || !isSort(sort) || !isWithin(n, 0, MOST_SECTIONS)) {
            return BAD;
        }
        if (sheets.isMissing(sheet)) {
            return MISSING;
        }
        if (sheets.sorts[sheet] != sort) {
            return UNLIKE;
        }
        int came = 0;
        for (int i = 0; i < n; i++) {
            if (!sheets.holds(sheet, from + 4L * i, 4)) {
                return OUTSIDE;
            }
            int at = from + 4 * i;
            int kind = sheets.item(sheet, at);
            int feed = sheets.item(sheet, at + 1);
            int loss = sheets.item(sheet, at + 2);
            int length = sheets.item(sheet, at + 3);
            if (section(kind, feed, loss, length) >= 0) {
                came++;
            }
        }
        return came;
    }

    public int count(int what) {
        switch (what) {
            case 0:
                return yard.size;
            case 1:
                return yard.faults.many;
            case 2:
                return tape.size;
            case 3:
                return Integer.bitCount(yard.trains);
            case 4:
                return yard.allCurrents();
            default:
                return BAD;
        }
    }

    public int sheet(int sheet, int sort, int n) {
        if (!sheets.has(sheet)) {
            return BAD;
        }
        if (sort == NONE) {
            sheets.become(sheet, NONE, 0);
            return 1;
        }
        if (!isSort(sort) || n > SHEET_ROOM) {
            return BAD;
        }
        if (n < 0) {
            return NEGATIVE;
        }
        sheets.become(sheet, sort, n);
        return 1;
    }

    public int put(int sheet, int i, int v) {
        if (!sheets.has(sheet)) {
            return BAD;
        }
        if (sheets.isMissing(sheet)) {
            return MISSING;
        }
        if (!sheets.holds(sheet, i, 1)) {
            return OUTSIDE;
        }
        sheets.lay(sheet, i, v);
        return 1;
    }

    public int copy(int sheet, int i, int other, int j, int n) {
        if (!sheets.has(sheet) || !sheets.has(other)) {
            return BAD;
        }
        if (sheets.isMissing(sheet) || sheets.isMissing(other)) {
            return MISSING;
        }
        if (sheets.sorts[sheet] != sheets.sorts[other]) {
            return UNLIKE;
        }
        if (!sheets.holds(sheet, i, n) || !sheets.holds(other, j, n)) {
            return OUTSIDE;
        }
        sheets.bring(sheet, i, other, j, n);
        return n;
    }

    // ---- small things that all use

    private static boolean isWithin(int v, int least, int most) {
        return v >= least && v <= most;
    }

    private static boolean isByte(int v) {
        return isWithin(v, 0, 255);
    }

    private static boolean isSort(int sort) {
        return isWithin(sort, SHORTS, INTS);
    }

    /** Whether v may be FEED, LOSS, LENGTH or KIND (by what) of a SECTION. */
    private static boolean isTrait(int what, int v) {
        switch (what) {
            case FEED:
                return isWithin(v, 1, 99);
            case LOSS:
                return isWithin(v, 0, 9);
            case LENGTH:
                return isWithin(v, 1, 9);
            case KIND:
                return isWithin(v, 0, KINDS - 1);
            default:
                return false;
        }
    }

    /** Whether a KIND is one that is sought, or under it. */
    private static boolean isUnder(int kind, int sought) {
        int above = kind;
        for (int level = 0; level < KINDS && above >= 0; level++) {
            if (above == sought) {
                return true;
            }
            above = ABOVE[above];
        }
        return false;
    }

    private static int bit(int bits, int i) {
        return (bits >> i) & 1;
    }

    private static int withBit(int bits, int i, boolean is) {
        return is ? bits | (1 << i) : bits & ~(1 << i);
    }

    /** Of one above 0 and one that is not below 0. */
    private static int greatestDivisor(int a, int b) {
        int divisor = a;
        int rest = b;
        for (int step = 0; step < 64 && rest != 0; step++) {
            int next = divisor % rest;
            divisor = rest;
            rest = next;
        }
        return divisor;
    }

    /** FAULTS, one behind the other as they came. */
    private static final class Faults {
        int many;
        final int[] kinds;
        final int[] places;
        final int[] caught;

        Faults() {
            // in thought there may be as many as are drawn behind a full row
            kinds = new int[MOST_FAULTS + MOST_DRAWN];
            places = new int[MOST_FAULTS + MOST_DRAWN];
            caught = new int[MOST_FAULTS + MOST_DRAWN];
        }

        void become(Faults other) {
            many = other.many;
            for (int i = 0; i < many; i++) {
                bringTo(i, other, i);
            }
        }

        private void bringTo(int to, Faults other, int from) {
            kinds[to] = other.kinds[from];
            places[to] = other.places[from];
            caught[to] = other.caught[from];
        }

        void add(int kind, int place, int catches) {
            if (many >= kinds.length) {
                return;
            }
            kinds[many] = kind;
            places[many] = place;
            caught[many] = catches;
            many++;
        }

        void remove(int i) {
            if (i < 0 || i >= many) {
                return;
            }
            for (int j = i + 1; j < many; j++) {
                bringTo(j - 1, this, j);
            }
            many--;
        }

        /** Those at a SECTION go: how many there were. */
        int removeAt(int place) {
            int stay = 0;
            for (int i = 0; i < many; i++) {
                if (places[i] != place) {
                    bringTo(stay, this, i);
                    stay++;
                }
            }
            int gone = many - stay;
            many = stay;
            return gone;
        }

        /** SECTIONS (bits) at which there is one of a KIND. */
        int placesOf(int kind) {
            int bits = 0;
            for (int i = 0; i < many; i++) {
                if (kinds[i] == kind) {
                    bits |= 1 << places[i];
                }
            }
            return bits;
        }

        /** What the i-th makes of a CURRENT. */
        int change(int i, int current, int leak) {
            switch (kinds[i]) {
                case BREAK:
                    return leak / 2;
                case WEAK:
                    return current / 2;
                case CROSS:
                    return Math.min(current + caught[i], MOST_CURRENT);
                default:
                    return current;
            }
        }
    }

    /** All that AN IMAGE keeps: SECTIONS, relays, WAITS, TRAINS, RULES, FAULTS. */
    private static final class Yard {
        int size;
        final int[] kinds;
        final int[] feeds;
        final int[] losses;
        final int[] lengths;
        final int[] waits;
        /** CURRENTS as measure() found them. */
        final int[] currents;
        final Faults faults;
        int up;
        int trains;
        int pick;
        int hold;
        int weather;

        Yard() {
            kinds = new int[MOST_SECTIONS];
            feeds = new int[MOST_SECTIONS];
            losses = new int[MOST_SECTIONS];
            lengths = new int[MOST_SECTIONS];
            waits = new int[MOST_SECTIONS];
            currents = new int[MOST_SECTIONS];
            faults = new Faults();
            pick = 20;
            hold = 10;
            weather = 1;
        }

        void become(Yard other) {
            size = other.size;
            System.arraycopy(other.kinds, 0, kinds, 0, size);
            System.arraycopy(other.feeds, 0, feeds, 0, size);
            System.arraycopy(other.losses, 0, losses, 0, size);
            System.arraycopy(other.lengths, 0, lengths, 0, size);
            System.arraycopy(other.waits, 0, waits, 0, size);
            faults.become(other.faults);
            up = other.up;
            trains = other.trains;
            pick = other.pick;
            hold = other.hold;
            weather = other.weather;
        }

        boolean has(int s) {
            return s >= 0 && s < size;
        }

        /** 1 it is UP, 0 DOWN, NONE: there is no such SECTION. */
        int relay(int s) {
            return s >= 0 && s < size ? (up >> s) & 1 : NONE;
        }

        boolean looks(int s, int side) {
            return s >= 0 && s < size && (LOOKS[kinds[s]] & side) != 0;
        }

        void addSection(int kind, int feed, int loss, int length) {
            if (size >= MOST_SECTIONS) {
                return;
            }
            kinds[size] = kind;
            feeds[size] = feed;
            losses[size] = loss;
            lengths[size] = length;
            waits[size] = 0;
            size++;
        }

        void removeLast() {
            if (size == 0) {
                return;
            }
            size--;
            // a later SECTION of that number begins DOWN, without a TRAIN
            up = withBit(up, size, false);
            trains = withBit(trains, size, false);
            faults.removeAt(size);
        }

        void lay(int s, int what, int v) {
            switch (what) {
                case FEED:
                    feeds[s] = v;
                    break;
                case LOSS:
                    losses[s] = v;
                    break;
                case LENGTH:
                    lengths[s] = v;
                    break;
                default:
                    kinds[s] = v;
                    break;
            }
        }

        /** A RULE becomes v: what it was. */
        int layRule(int rule, int v) {
            int was;
            switch (rule) {
                case 0:
                    was = pick;
                    pick = v;
                    return was;
                case 1:
                    was = hold;
                    hold = v;
                    return was;
                default:
                    was = weather;
                    weather = v;
                    return was;
            }
        }

        void addFault(int kind, int s) {
            int catches = kind == CROSS && has(s + 1) ? feeds[s + 1] / 2 : 0;
            faults.add(kind, s, catches);
        }

        int leak(int s) {
            return losses[s] * lengths[s] * weather / 10;
        }

        void measure() {
            for (int s = 0; s < size; s++) {
                currents[s] = Math.max(0, feeds[s] - leak(s));
            }
            for (int i = 0; i < faults.many; i++) {
                int s = faults.places[i];
                if (has(s)) {
                    currents[s] = faults.change(i, currents[s], leak(s));
                }
            }
            if (trains != 0) {
                shunt(faults.placesOf(RUST));
            }
        }

        /** TRAINS take CURRENTS away, but for a quarter where there is rust. */
        private void shunt(int rusts) {
            for (int s = 0; s < size; s++) {
                int place = 1 << s;
                if ((trains & place) != 0) {
                    currents[s] = (rusts & place) != 0 ? currents[s] / 4 : 0;
                }
            }
        }

        int allCurrents() {
            measure();
            int all = 0;
            for (int s = 0; s < size; s++) {
                all += currents[s];
            }
            return all;
        }

        /** Whether a relay GOES UP, by CURRENTS as measured and relays as they are. */
        boolean goesUp(int s) {
            boolean isUp = relay(s) == 1;
            int left = relay(s - 1);
            int right = relay(s + 1);
            int current = currents[s];
            switch (kinds[s]) {
                case SLOW:
                    return (isUp || waits[s] >= 2) && isEnough(current, isUp);
                case STICK:
                    return (isUp || left != 0) && isEnough(current, isUp);
                case CODED:
                    current = right == 0 ? current / 2 : current;
                    return (isUp || waits[s] >= 2) && isEnough(current, isUp);
                case BACKED:
                    return right != 1 && isEnough(current, isUp);
                case GUARD:
                    // the greater of both is 0 just if there are others and none of them is UP
                    if (Math.max(left, right) == 0) {
                        return false;
                    }
                    return (isUp || left != 0) && isEnough(current, isUp);
                default:
                    return isEnough(current, isUp);
            }
        }

        private boolean isEnough(int current, boolean isUp) {
            return current >= pick || (current >= hold && isUp);
        }

        /** WAITS behind a MOMENT, by CURRENTS as measured for it. */
        void countWaits() {
            for (int s = 0; s < size; s++) {
                waits[s] = currents[s] >= pick ? Math.min(MOST_WAITS, waits[s] + 1) : 0;
            }
        }

        void moveTrains() {
            trains = (trains << 1) & all();
        }

        private int all() {
            return (1 << size) - 1;
        }

        private int troubled() {
            return trains | faults.placesOf(BREAK);
        }

        int unsafe() {
            return troubled() & up;
        }

        int wrong() {
            return all() & ~troubled() & ~up;
        }
    }

    /** The queue of a MOMENT, and what the MOMENT changed. */
    private static final class Asking {
        /** Far above what 40 CHANGES can bring to the queue. */
        private static final int MOST_ASKED = 1000;

        final int[] changes;
        int changed;
        /** A ring: none is in it twice, so that all SECTIONS have room. */
        private final int[] queue;
        private int first;
        private int waiting;
        private int inQueue;

        Asking() {
            changes = new int[MOST_CHANGES];
            queue = new int[MOST_SECTIONS];
        }

        /** A MOMENT with its WAITS; false: it FLAPS, and the yard is as ahead of it. */
        boolean passes(Yard yard) {
            if (!settles(yard, false)) {
                return false;
            }
            yard.countWaits();
            return true;
        }

        /** The asking alone; false: it FLAPS, and relays are as ahead of it. */
        boolean settles(Yard yard, boolean fromLast) {
            int upAhead = yard.up;
            yard.measure();
            changed = 0;
            enterAll(yard.size, fromLast);
            for (int asked = 0; asked < MOST_ASKED && waiting > 0; asked++) {
                int s = takeFirst();
                boolean isUp = yard.goesUp(s);
                if (isUp == (yard.relay(s) == 1)) {
                    continue;
                }
                if (changed >= MOST_CHANGES) {
                    yard.up = upAhead;
                    return false;
                }
                yard.up = withBit(yard.up, s, isUp);
                changes[changed] = 10 * s + (isUp ? 1 : 0);
                changed++;
                enterBeside(yard, s);
            }
            return true;
        }

        private void enterAll(int size, boolean fromLast) {
            first = 0;
            waiting = 0;
            inQueue = 0;
            for (int s = 0; s < size; s++) {
                enter(fromLast ? size - 1 - s : s);
            }
        }

        private void enterBeside(Yard yard, int s) {
            if (yard.looks(s - 1, RIGHT)) {
                enter(s - 1);
            }
            if (yard.looks(s + 1, LEFT)) {
                enter(s + 1);
            }
        }

        private void enter(int s) {
            if ((inQueue & (1 << s)) != 0 || waiting >= MOST_SECTIONS) {
                return;
            }
            queue[(first + waiting) % MOST_SECTIONS] = s;
            waiting++;
            inQueue |= 1 << s;
        }

        private int takeFirst() {
            int s = queue[first];
            first = (first + 1) % MOST_SECTIONS;
            waiting--;
            inQueue &= ~(1 << s);
            return s;
        }
    }

    /** What is asked IN THOUGHT: on a yard of its own, laid as the real one ahead of each thought. */
    private static final class Mind {
        private final Yard real;
        private final Yard thought;
        private final Asking asking;

        Mind(Yard real) {
            this.real = real;
            thought = new Yard();
            asking = new Asking();
        }

        int ran(int n, int what) {
            thought.become(real);
            int unsafe = 0;
            int changes = 0;
            for (int i = 0; i < n; i++) {
                if (!asking.passes(thought)) {
                    return STATE;
                }
                unsafe += Integer.bitCount(thought.unsafe());
                changes += asking.changed;
                thought.moveTrains();
            }
            switch (what) {
                case 0:
                    return thought.up;
                case 1:
                    return unsafe;
                case 2:
                    return changes;
                default:
                    return thought.trains;
            }
        }

        int clearing(int section) {
            thought.become(real);
            for (int i = 1; i <= MOST_RUN; i++) {
                if (!asking.passes(thought)) {
                    return NONE;
                }
                if (thought.relay(section) == 1) {
                    return i;
                }
            }
            return NONE;
        }

        /** A MOMENT from the last to the first beside one as told. */
        int fromLast(int what) {
            thought.become(real);
            if (!asking.settles(thought, false)) {
                return STATE;
            }
            int upAsTold = thought.up;
            thought.up = real.up;
            if (!asking.settles(thought, true)) {
                return STATE;
            }
            if (what == 1) {
                return asking.changed;
            }
            return thought.up == upAsTold ? 1 : 0;
        }

        boolean seesBreak(int section) {
            return settlesWithBreak(section, real.weather) && thought.relay(section) == 0;
        }

        private boolean settlesWithBreak(int section, int weather) {
            thought.become(real);
            thought.weather = weather;
            thought.addFault(BREAK, section);
            return asking.settles(thought, false);
        }

        int greatestFairWeather() {
            for (int weather = MOST_WEATHER; weather >= 0; weather--) {
                if (isFair(real.pick, weather)) {
                    return weather;
                }
            }
            return NONE;
        }

        int greatestFairPick() {
            for (int pick = MOST_PICK; pick >= 0; pick--) {
                if (isFair(pick, real.weather)) {
                    return pick;
                }
            }
            return NONE;
        }

        /** Whether a MOMENT doesn't FLAP and leaves none WRONG. */
        private boolean isFair(int pick, int weather) {
            thought.become(real);
            thought.pick = pick;
            thought.weather = weather;
            return asking.settles(thought, false) && thought.wrong() == 0;
        }

        int leastBlindWeather() {
            for (int weather = 0; weather <= MOST_WEATHER; weather++) {
                for (int s = 0; s < real.size; s++) {
                    if (settlesWithBreak(s, weather) && thought.relay(s) == 1) {
                        return weather;
                    }
                }
            }
            return NONE;
        }

        int failingCases() {
            int failing = 0;
            for (int f = 0; f <= FAULT_KINDS * real.size; f++) {
                layCaseFault(f, real.pick);
                for (int t = 0; t <= real.size; t++) {
                    if (failsWithTrain(t)) {
                        failing++;
                    }
                }
            }
            return failing;
        }

        int firstFailingCase(int pick) {
            for (int f = 0; f <= FAULT_KINDS * real.size; f++) {
                layCaseFault(f, pick);
                for (int t = 0; t <= real.size; t++) {
                    if (failsWithTrain(t)) {
                        return 100 * f + t;
                    }
                }
            }
            return NONE;
        }

        int leastSafePick() {
            for (int pick = 0; pick <= MOST_PICK; pick++) {
                if (firstFailingCase(pick) == NONE) {
                    return pick;
                }
            }
            return NONE;
        }

        private void layCaseFault(int f, int pick) {
            thought.become(real);
            thought.pick = pick;
            if (f > 0) {
                thought.addFault((f - 1) % FAULT_KINDS, (f - 1) / FAULT_KINDS);
            }
        }

        /** Asking alone leaves WAITS, so that only relays and TRAINS are laid anew for each. */
        private boolean failsWithTrain(int t) {
            thought.up = real.up;
            thought.trains = t > 0 ? withBit(real.trains, t - 1, true) : real.trains;
            return !asking.settles(thought, false) || thought.unsafe() != 0;
        }

        int faultToMend() {
            int toMend = NONE;
            int fewest = troubleWithout(NONE);
            for (int i = 0; i < real.faults.many; i++) {
                int trouble = troubleWithout(i);
                if (trouble < fewest) {
                    fewest = trouble;
                    toMend = i;
                }
            }
            return toMend;
        }

        private int troubleWithout(int fault) {
            thought.become(real);
            if (fault != NONE) {
                thought.faults.remove(fault);
            }
            if (!asking.settles(thought, false)) {
                return 16;
            }
            return Integer.bitCount(thought.unsafe()) + Integer.bitCount(thought.wrong());
        }

        /** There must be SECTIONS. */
        int unsafeByLot(int seed, int n) {
            thought.become(real);
            int z = seed;
            for (int i = 0; i < n && thought.size > 0; i++) {
                z = z * 1103515245 + 12345;
                thought.addFault((z >>> 9) % FAULT_KINDS, (z >>> 16) % thought.size);
            }
            return asking.settles(thought, false) ? Integer.bitCount(thought.unsafe()) : 9;
        }

        int lotsWith(int seed, int m, int n, int k) {
            int many = 0;
            for (int i = 0; i < m; i++) {
                if (unsafeByLot(seed + i, n) >= k) {
                    many++;
                }
            }
            return many;
        }

        /** The first that a SHEET tells otherwise, if the SECTION were of a KIND. */
        int firstOtherwise(Sheets sheets, int sheet, int section, int kind) {
            thought.become(real);
            thought.kinds[section] = kind;
            int told = sheets.sizes[sheet];
            for (int i = 0; i < told; i++) {
                if (!asking.passes(thought)) {
                    return i;
                }
                if (thought.relay(section) != sheets.item(sheet, i)) {
                    return i;
                }
                thought.moveTrains();
            }
            return NONE;
        }

        /** A relay behind each of n MOMENTS, as bits; NONE: one FLAPS. */
        int pictures(int section, int n) {
            thought.become(real);
            int bits = 0;
            for (int i = 0; i < n; i++) {
                if (!asking.passes(thought)) {
                    return NONE;
                }
                bits = withBit(bits, i, thought.relay(section) == 1);
                thought.moveTrains();
            }
            return bits;
        }
    }

    /** THE TAPE, and the CLAUSES that were read from it. */
    private static final class Tape {
        final int[] bytes;
        int size;
        private int at;
        final int[] words;
        private final int[] numbers;
        int clauses;

        Tape() {
            bytes = new int[TAPE_ROOM];
            words = new int[MOST_CLAUSES];
            numbers = new int[MOST_CLAUSES * MOST_NUMBERS];
        }

        void add(int v) {
            if (size < TAPE_ROOM) {
                bytes[size] = v;
                size++;
            }
        }

        /** Of a CLAUSE whose WORD takes fewer it means nothing. */
        int number(int clause, int i) {
            return numbers[clause * MOST_NUMBERS + i];
        }

        /** Reads all CLAUSES: NONE, or the place of the FAULT. */
        int placeOfFault() {
            at = 0;
            clauses = 0;
            for (int i = 0; i < MOST_CLAUSES; i++) {
                int place = readClause(i);
                if (place != NONE) {
                    return place;
                }
                clauses++;
                skipBlanks();
                if (at >= size) {
                    return NONE;
                }
                if (bytes[at] != ';') {
                    return at;
                }
                at++;
            }
            return at;
        }

        private int readClause(int clause) {
            skipBlanks();
            int begin = at;
            skipAll('a', 'z');
            int word = wordFrom(begin);
            if (word == NONE) {
                return begin;
            }
            words[clause] = word;
            for (int i = 0; i < NUMBERS[word]; i++) {
                skipBlanks();
                begin = at;
                skipAll('0', '9');
                if (at == begin || at > begin + 2) {
                    return begin;
                }
                numbers[clause * MOST_NUMBERS + i] = numberFrom(begin);
            }
            return NONE;
        }

        private void skipBlanks() {
            while (at < size && (bytes[at] == 32 || bytes[at] == 10)) {
                at++;
            }
        }

        private void skipAll(int least, int most) {
            while (at < size && bytes[at] >= least && bytes[at] <= most) {
                at++;
            }
        }

        private int numberFrom(int begin) {
            int number = 0;
            for (int i = begin; i < at; i++) {
                number = number * 10 + bytes[i] - '0';
            }
            return number;
        }

        private int wordFrom(int begin) {
            for (int word = 0; word < WORDS; word++) {
                if (isSpelt(spelling(word), begin)) {
                    return word;
                }
            }
            return NONE;
        }

        private boolean isSpelt(String spelling, int begin) {
            if (at - begin != spelling.length()) {
                return false;
            }
            for (int i = 0; i < spelling.length(); i++) {
                if (bytes[begin + i] != spelling.charAt(i)) {
                    return false;
                }
            }
            return true;
        }

        private static String spelling(int word) {
            switch (word) {
                case WORD_SECTION:
                    return "section";
                case WORD_TRAIN:
                    return "train";
                case WORD_GONE:
                    return "gone";
                case WORD_FAULT:
                    return "fault";
                case WORD_MEND:
                    return "mend";
                case WORD_WEATHER:
                    return "weather";
                case WORD_MOMENT:
                    return "moment";
                default:
                    return "drop";
            }
        }
    }

    /** SHEETS, all in one row, each with room for 40. */
    private static final class Sheets {
        /** NONE: missing. */
        final int[] sorts;
        final int[] sizes;
        private final int[] items;

        Sheets() {
            sorts = new int[SHEETS];
            sizes = new int[SHEETS];
            items = new int[SHEETS * SHEET_ROOM];
            for (int sheet = 0; sheet < SHEETS; sheet++) {
                sorts[sheet] = NONE;
            }
        }

        boolean has(int sheet) {
            return isWithin(sheet, 0, SHEETS - 1);
        }

        boolean isMissing(int sheet) {
            return sorts[sheet] == NONE;
        }

        /** Whether n places from one on lie in it; longs, so that no sum wraps around. */
        boolean holds(int sheet, long from, long n) {
            return from >= 0 && n >= 0 && from + n <= sizes[sheet];
        }

        void become(int sheet, int sort, int n) {
            sorts[sheet] = sort;
            sizes[sheet] = n;
            for (int i = 0; i < n; i++) {
                items[sheet * SHEET_ROOM + i] = 0;
            }
        }

        int item(int sheet, int i) {
            return items[sheet * SHEET_ROOM + i];
        }

        void lay(int sheet, int i, int v) {
            items[sheet * SHEET_ROOM + i] = sorts[sheet] == SHORTS ? (short) v : v;
        }

        void bring(int sheet, int i, int other, int j, int n) {
            System.arraycopy(items, sheet * SHEET_ROOM + i, items, other * SHEET_ROOM + j, n);
        }
    }
}
