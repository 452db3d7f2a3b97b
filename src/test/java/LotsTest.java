/** Promises 26 to 29: faults by lot, what was told. */
public final class LotsTest {
    private static final int BAD = TrackCircuits.BAD, NONE = TrackCircuits.NONE;
    private static final Check CHECK = new Check();

    /** z behind n steps, by longs. */
    private static long z(int seed, int n) {
        long z = seed & 0xFFFFFFFFL;
        for (int i = 0; i < n; i++) {
            z = (z * 1103515245L + 12345L) & 0xFFFFFFFFL;
        }
        return z;
    }

    private static int kindOf(long z) {
        return (int) (z / 512 % 4);
    }

    private static int sectionOf(long z, int size) {
        return (int) (z / 65536 % size);
    }

    /** A yard in which a TRAIN on RUST is UNSAFE, and nothing else: TRAINS on all. */
    private static TrackCircuits trains(int size) {
        TrackCircuits x = Check.plain(size);
        for (int i = 0; i < size; i++) {
            x.set(i, 0, 99);
            x.train(i, 1);
        }
        return x;
    }

    private static void drawn() {
        TrackCircuits x = trains(3);
        int[] seeds = {0, 1, 2, -1, 77, 12345, Integer.MAX_VALUE, Integer.MIN_VALUE, -987654321};
        for (int seed : seeds) {
            boolean isRust = kindOf(z(seed, 1)) == 3;
            CHECK.due("P26 one, by seed " + seed, x.drawn(seed, 1), isRust ? 1 : 0);
            CHECK.due("P26 none", x.drawn(seed, 0), 0);
        }
        for (int seed = -40; seed < 40; seed++) {
            // the same faults truly, as far as they have room
            TrackCircuits truly = trains(3);
            for (int i = 1; i <= 6; i++) {
                truly.fault(kindOf(z(seed, i)), sectionOf(z(seed, i), 3));
                int got = x.drawn(seed, i);
                truly.image();
                truly.moment();
                CHECK.due("P26 " + i + " by seed " + seed, got, Integer.bitCount(truly.who(1)));
                truly.back();
            }
        }
        CHECK.due("P26 nothing is kept", x.count(1), 0);
        CHECK.due("P26 nothing is kept", x.who(0), 0);
        for (int i = 0; i < 6; i++) {
            x.fault(3, i % 3);
        }
        CHECK.due("P26 whatever there are", x.drawn(1, 0), 3);
        int changed = 0;
        for (int seed = 0; seed < 50; seed++) {
            changed += x.drawn(seed, 9) < 3 ? 1 : 0;
        }
        CHECK.holds("P26 nine more than six count", changed > 0);
        CHECK.due("P26 bad", x.drawn(1, 10), BAD);
        CHECK.due("P26 bad", x.drawn(1, -1), BAD);
        CHECK.due("P26 no sections", new TrackCircuits().drawn(1, 0), BAD);
        CHECK.due("P26 it flaps", Check.flapping().drawn(5, 0), 9);
    }

    private static void chance() {
        TrackCircuits x = trains(3);
        for (int m = 1; m <= 20; m++) {
            int above = 0;
            for (int i = 0; i < m; i++) {
                above += x.drawn(Integer.MAX_VALUE - 3 + i, 5) >= 1 ? 1 : 0;
            }
            int a = x.chance(Integer.MAX_VALUE - 3, m, 5, 1, 0);
            int b = x.chance(Integer.MAX_VALUE - 3, m, 5, 1, 1);
            CHECK.due("P27 worth in " + m, a * m, above * b);
            for (int d = 2; d <= 20; d++) {
                CHECK.holds("P27 lowest terms in " + m, a % d != 0 || b % d != 0);
            }
        }
        CHECK.due("P27 all", x.chance(3, 20, 4, 0, 0), 1);
        CHECK.due("P27 all", x.chance(3, 20, 4, 0, 1), 1);
        CHECK.due("P27 none: 0", x.chance(3, 20, 0, 1, 0), 0);
        CHECK.due("P27 none: by 1", x.chance(3, 20, 0, 1, 1), 1);
        CHECK.due("P27 flapping is 9", Check.flapping().chance(3, 7, 0, 8, 0), 1);
        int[][] bad = {{0, 1, 1, 0}, {21, 1, 1, 0}, {1, -1, 1, 0}, {1, 10, 1, 0}, {1, 1, -1, 0}, {1, 1, 9, 0},
            {1, 1, 1, -1}, {1, 1, 1, 2}};
        for (int[] b : bad) {
            CHECK.due("P27 bad", x.chance(1, b[0], b[1], b[2], b[3]), BAD);
        }
        CHECK.due("P27 most", x.chance(1, 20, 9, 8, 1), 1);
        CHECK.due("P27 no sections", new TrackCircuits().chance(1, 1, 1, 1, 0), BAD);
    }

    private static void row(TrackCircuits x, int sheet, int sort, int... items) {
        x.sheet(sheet, sort, items.length);
        for (int i = 0; i < items.length; i++) {
            x.put(sheet, i, items[i]);
        }
    }

    private static void tells() {
        TrackCircuits x = Check.yard(Check.row(1, 40, 0, 1), Check.row(0, 40, 0, 1));
        x.train(0, 1);
        CHECK.due("P28 missing", x.tells(0, 0, 0), -11);
        CHECK.due("P28 bad sheet", x.tells(4, 0, 0), BAD);
        CHECK.due("P28 bad sheet", x.tells(-1, 0, 0), BAD);
        CHECK.due("P28 bad section goes ahead of missing", x.tells(0, 2, 0), BAD);
        CHECK.due("P28 bad what goes ahead of missing", x.tells(0, 0, 2), BAD);
        CHECK.due("P28 bad what", x.tells(0, 0, -1), BAD);
        // the train leaves 0 behind the first: WAITS 1, 2, UP behind the fourth
        row(x, 0, 0, 0, 0, 0, 1);
        CHECK.due("P28 all so", x.tells(0, 0, 0), NONE);
        CHECK.due("P28 SLOW and CODED", x.tells(0, 0, 1), 2 + 8);
        row(x, 1, 1, 0, 0, 1, 1);
        CHECK.due("P28 the third is otherwise", x.tells(1, 0, 0), 2);
        // UP as soon as the train is gone from the one right of it
        CHECK.due("P28 a GUARD", x.tells(1, 0, 1), 32);
        row(x, 1, 1, 0, 1);
        CHECK.due("P28 PLAIN, STICK and BACK", x.tells(1, 0, 1), 1 + 4 + 16);
        row(x, 1, 1, 1, 1);
        CHECK.due("P28 by no kind", x.tells(1, 0, 1), 0);
        row(x, 2, 1, 1, 0, 1);
        CHECK.due("P28 trains move", x.tells(2, 1, 0), NONE);
        row(x, 2, 1, 2);
        CHECK.due("P28 neither 1 nor 0 is otherwise", x.tells(2, 1, 0), 0);
        row(x, 2, 1, -1);
        CHECK.due("P28 neither 1 nor 0 is otherwise", x.tells(2, 0, 0), 0);
        row(x, 2, 0);
        CHECK.due("P28 a row that tells none", x.tells(2, 0, 0), NONE);
        CHECK.due("P28 a row that tells none: all kinds", x.tells(2, 0, 1), 63);
        x.sheet(3, 0, 10);
        CHECK.due("P28 ten", x.tells(3, 0, 0), 3);
        x.sheet(3, 0, 11);
        CHECK.due("P28 more than 10", x.tells(3, 0, 0), BAD);
        CHECK.due("P28 nothing is kept", x.of(0, 3), 1);
        CHECK.due("P28 nothing is kept", x.who(3), 1);
        CHECK.due("P28 nothing is kept", x.who(0), 0);
        TrackCircuits late = Check.lateFlapping();
        row(late, 0, 0, 1, 1, 1, 1);
        CHECK.due("P28 one that flaps", late.tells(0, 1, 0), 2);
        row(late, 0, 0, 1, 1);
        CHECK.due("P28 not asked so far", late.tells(0, 1, 0), NONE);
        row(late, 0, 0, 0, 0, 0);
        CHECK.due("P28 one that flaps is not so", late.tells(0, 3, 0), 2);
    }

    private static void film() {
        TrackCircuits x = Check.yard(Check.row(1, 40, 0, 1), Check.row(0, 40, 0, 1));
        x.train(0, 1);
        CHECK.due("P29 bad", x.film(4, 0, 1), BAD);
        CHECK.due("P29 bad", x.film(-1, 0, 1), BAD);
        CHECK.due("P29 bad", x.film(0, 2, 1), BAD);
        CHECK.due("P29 bad", x.film(0, -1, 1), BAD);
        CHECK.due("P29 bad", x.film(0, 0, 11), BAD);
        CHECK.due("P29 bad", x.film(0, 0, -1), BAD);
        CHECK.due("P29 none came", x.put(0, 0, 0), -11);
        CHECK.due("P29 five", x.film(0, 0, 5), 5);
        CHECK.due("P29 as told", x.tells(0, 0, 0), NONE);
        CHECK.due("P29 it is of five", x.put(0, 5, 0), -12);
        row(x, 1, 0, 0, 0, 0, 1, 1);
        // as kinds tell: laid beside one made by hand
        CHECK.due("P29 like one by hand", x.tells(0, 0, 1), x.tells(1, 0, 1));
        x.put(0, 3, 0);
        CHECK.due("P29 the fourth was 1", x.tells(0, 0, 0), 3);
        CHECK.due("P29 in thought", x.who(0), 0);
        CHECK.due("P29 in thought", x.who(3), 1);
        CHECK.due("P29 of shorts", x.load(0, 0, 0, 0), 0);
        CHECK.due("P29 of shorts", x.load(0, 1, 0, 0), -13);
        CHECK.due("P29 ten", x.film(2, 1, 10), 10);
        CHECK.due("P29 ten", x.tells(2, 1, 0), NONE);
        CHECK.due("P29 none", x.film(2, 1, 0), 0);
        CHECK.due("P29 an empty row", x.put(2, 0, 0), -12);
        TrackCircuits late = Check.lateFlapping();
        late.sheet(0, 1, 7);
        CHECK.due("P29 it flaps", late.film(0, 1, 3), TrackCircuits.STATE);
        CHECK.due("P29 the sheet stays", late.put(0, 6, 0), 1);
        CHECK.due("P29 the sheet stays", late.load(0, 1, 0, 0), 0);
        CHECK.due("P29 two", late.film(0, 1, 2), 2);
    }

    public static void main(String[] args) {
        drawn();
        chance();
        tells();
        film();
        CHECK.end("LotsTest");
    }
}
