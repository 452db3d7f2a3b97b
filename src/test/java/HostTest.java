/** Promises 32 to 38: the image, loading, counting, sheets. */
public final class HostTest {
    private static final int BAD = TrackCircuits.BAD, NONE = TrackCircuits.NONE;
    private static final Check CHECK = new Check();

    private static void image() {
        TrackCircuits x = Check.yard(Check.row(1, 40, 2, 3), Check.row(0, 50, 0, 1));
        CHECK.due("P33 there is none", x.back(), TrackCircuits.STATE);
        x.moment();
        x.train(0, 1);
        x.fault(2, 0);
        x.fault(3, 1);
        x.rule(0, 30);
        x.rule(1, 15);
        x.rule(2, 4);
        CHECK.due("P32 how many", x.image(), 2);
        x.set(0, 0, 9);
        x.set(0, 1, 9);
        x.set(0, 2, 9);
        x.set(0, 3, 4);
        x.set(1, 0, 90);
        x.train(0, 0);
        x.train(1, 1);
        x.mend(0);
        x.fault(0, 1);
        x.rule(0, 1);
        x.rule(1, 2);
        x.rule(2, 3);
        x.force(1, 0);
        x.section(0, 20, 0, 1);
        x.section(0, 20, 0, 1);
        // the first has more LEAK than FEED, the second a TRAIN
        CHECK.due("just the new ones go UP", x.moment(), 2);
        x.sheet(1, 1, 5);
        x.feed(2, 'a', 'b', 0, 0, 0);
        CHECK.due("P33 how many", x.back(), 2);
        int[] traits = {40, 2, 3, 1};
        for (int what = 0; what < 4; what++) {
            CHECK.due("P33 section", x.of(0, what), traits[what]);
        }
        CHECK.due("P33 two sections", x.count(0), 2);
        CHECK.due("P33 relays", x.who(0), 2);
        CHECK.due("P33 WAITS", x.of(0, 7), 1);
        CHECK.due("P33 WAITS", x.of(1, 7), 1);
        CHECK.due("P33 trains", x.who(3), 1);
        CHECK.due("P33 faults", x.count(1), 2);
        CHECK.due("P33 fault", x.faultOf(0, 0), 2);
        CHECK.due("P33 fault", x.faultOf(1, 0), 3);
        CHECK.due("P33 fault", x.faultOf(1, 1), 1);
        CHECK.due("P33 caught", x.faultOf(0, 2), 25);
        CHECK.due("P33 PICK", x.rule(0, 99), 30);
        CHECK.due("P33 HOLD", x.rule(1, 99), 15);
        CHECK.due("P33 WEATHER", x.rule(2, 9), 4);
        CHECK.due("P33 log stays", x.log(NONE), 2);
        CHECK.due("P33 log stays", x.log(1), 31);
        CHECK.due("P33 sheets stay", x.put(1, 4, 1), 1);
        CHECK.due("P33 the tape stays", x.count(2), 2);
        x.drop();
        x.drop();
        CHECK.due("P33 again", x.back(), 2);
        CHECK.due("P33 as it was kept", x.rule(0, 30), 30);
        x.drop();
        CHECK.due("P32 another takes its place", x.image(), 1);
        x.section(0, 20, 0, 1);
        CHECK.due("P33 that one", x.back(), 1);
        TrackCircuits empty = new TrackCircuits();
        CHECK.due("P32 none", empty.image(), 0);
        empty.section(0, 20, 0, 1);
        CHECK.due("P33 none", empty.back(), 0);
        CHECK.due("P33 none", empty.count(0), 0);
        TrackCircuits caught = Check.plain(2);
        caught.fault(2, 0);
        caught.image();
        caught.set(1, 0, 99);
        caught.back();
        caught.set(1, 0, 10);
        CHECK.due("P33 with what it caught", caught.of(0, 5), 75);
    }

    private static void fill(TrackCircuits x, int sheet, int... items) {
        for (int i = 0; i < items.length; i++) {
            x.put(sheet, i, items[i]);
        }
    }

    private static void load() {
        TrackCircuits x = new TrackCircuits();
        CHECK.due("P34 bad sheet", x.load(4, 0, 0, 0), BAD);
        CHECK.due("P34 bad sheet", x.load(-1, 0, 0, 0), BAD);
        CHECK.due("P34 bad sort goes ahead of missing", x.load(0, 2, 0, 0), BAD);
        CHECK.due("P34 bad sort", x.load(0, -1, 0, 0), BAD);
        CHECK.due("P34 bad n goes ahead of missing", x.load(0, 0, 0, 9), BAD);
        CHECK.due("P34 bad n", x.load(0, 0, 0, -1), BAD);
        CHECK.due("P34 missing", x.load(0, 0, 0, 0), -11);
        CHECK.due("P34 missing, of whatever sort", x.load(0, 1, 0, 1), -11);
        x.sheet(0, 0, 14);
        fill(x, 0, 7, 5, 40, 2, 3, 0, 100, 0, 1, 1, 99, 9, 9, 3);
        CHECK.due("P34 of another sort", x.load(0, 1, 0, 0), -13);
        CHECK.due("P34 of another sort goes ahead of outside", x.load(0, 1, 99, 1), -13);
        CHECK.due("P34 none", x.load(0, 0, 0, 0), 0);
        CHECK.due("P34 none from anywhere", x.load(0, 0, -7, 0), 0);
        CHECK.due("P34 three, one left out", x.load(0, 0, 1, 3), 2);
        CHECK.due("P34 first", x.taken(0, 5), 40);
        CHECK.due("P34 first's loss", x.of(0, 1), 2);
        CHECK.due("P34 first's length", x.of(0, 2), 3);
        CHECK.due("P34 second", x.taken(1, 1), 99);
        CHECK.due("P34 outside: what stood ahead came", x.load(0, 0, 1, 4), -12);
        CHECK.due("P34 two more", x.count(0), 4);
        CHECK.due("P34 one of four outside", x.load(0, 0, 11, 1), -12);
        CHECK.due("P34 outside", x.load(0, 0, -1, 1), -12);
        CHECK.due("P34 outside", x.load(0, 0, Integer.MAX_VALUE, 8), -12);
        CHECK.due("P34 outside", x.load(0, 0, Integer.MAX_VALUE - 2, 1), -12);
        CHECK.due("P34 outside", x.load(0, 0, Integer.MIN_VALUE, 8), -12);
        CHECK.due("P34 none came", x.count(0), 4);
        x.sheet(1, 1, 40);
        for (int i = 0; i < 10; i++) {
            x.put(1, 4 * i + 1, 9);
            x.put(1, 4 * i + 3, 1);
        }
        CHECK.due("P34 as many as have room", x.load(1, 1, 0, 8), 4);
        CHECK.due("P34 eight", x.count(0), 8);
        CHECK.due("P34 outside, also when full", x.load(1, 1, 37, 1), -12);
        CHECK.due("P34 just inside, when full", x.load(1, 1, 36, 1), 0);
        TrackCircuits ends = Check.plain(0);
        ends.sheet(2, 0, 4);
        fill(ends, 2, 0, 9, 0, 1);
        CHECK.due("P34 just four", ends.load(2, 0, 0, 1), 1);
    }

    private static void count() {
        TrackCircuits x = Check.yard(Check.row(0, 40, 9, 9), Check.row(0, 50, 0, 1), Check.row(0, 7, 0, 1));
        x.train(1, 1);
        x.train(2, 1);
        x.fault(1, 0);
        x.feed(4, 1, 2, 3, 4, 5);
        int[] want = {3, 1, 4, 2, 16};
        for (int what = 0; what < 5; what++) {
            CHECK.due("P35 " + what, x.count(what), want[what]);
        }
        CHECK.due("P35 bad", x.count(5), BAD);
        CHECK.due("P35 bad", x.count(-1), BAD);
    }

    private static void sheet() {
        TrackCircuits x = new TrackCircuits();
        CHECK.due("P36 bad sheet", x.sheet(4, 0, 1), BAD);
        CHECK.due("P36 bad sheet", x.sheet(-1, -1, 1), BAD);
        CHECK.due("P36 bad sort", x.sheet(0, 2, 1), BAD);
        CHECK.due("P36 bad sort", x.sheet(0, -2, 1), BAD);
        CHECK.due("P36 bad sort goes ahead of a size", x.sheet(0, 2, -1), BAD);
        CHECK.due("P36 above 40", x.sheet(0, 0, 41), BAD);
        CHECK.due("P36 below 0", x.sheet(0, 0, -1), -14);
        CHECK.due("P36 still missing", x.put(0, 0, 0), -11);
        CHECK.due("P36 forty", x.sheet(0, 0, 40), 1);
        CHECK.due("P36 the last", x.put(0, 39, 1), 1);
        CHECK.due("P36 none", x.sheet(1, 1, 0), 1);
        CHECK.due("P36 an empty row isn't missing", x.put(1, 0, 0), -12);
        CHECK.due("P36 bad ones change nothing", x.sheet(0, 0, -5), -14);
        CHECK.due("P36 bad ones change nothing", x.put(0, 39, 1), 1);
        CHECK.due("P36 missing", x.sheet(0, -1, 99), 1);
        CHECK.due("P36 is missing", x.put(0, 0, 0), -11);
        CHECK.due("P36 missing, n does not matter", x.sheet(0, -1, -9), 1);
        TrackCircuits zeros = Check.plain(1);
        zeros.sheet(0, 1, 2);
        fill(zeros, 0, 1, 1);
        CHECK.due("told", zeros.tells(0, 0, 0), NONE);
        zeros.sheet(0, 1, 2);
        zeros.train(0, 1);
        zeros.image();
        CHECK.due("P36 all 0 anew", zeros.tells(0, 0, 0), 1);
        zeros.sheet(0, 1, 1);
        CHECK.due("P36 shorter", zeros.tells(0, 0, 0), NONE);
        zeros.put(0, 0, 5);
        zeros.sheet(0, 1, 3);
        zeros.train(0, 0);
        zeros.rule(0, 99);
        CHECK.due("P36 all 0 when longer", zeros.tells(0, 0, 0), NONE);
    }

    private static void put() {
        TrackCircuits x = Check.plain(1);
        CHECK.due("P37 bad", x.put(4, 0, 0), BAD);
        CHECK.due("P37 bad", x.put(-1, 0, 0), BAD);
        CHECK.due("P37 missing", x.put(3, 0, 0), -11);
        CHECK.due("P37 missing goes ahead of outside", x.put(3, -1, 0), -11);
        x.sheet(3, 0, 2);
        x.sheet(2, 1, 2);
        CHECK.due("P37 outside", x.put(3, -1, 0), -12);
        CHECK.due("P37 outside", x.put(3, 2, 0), -12);
        CHECK.due("P37 outside", x.put(3, Integer.MAX_VALUE, 0), -12);
        CHECK.due("P37 outside", x.put(3, Integer.MIN_VALUE, 0), -12);
        x.put(3, 0, 1);
        CHECK.due("P37 lowest 16 bits", x.put(3, 1, 65537), 1);
        CHECK.due("P37 it is 1", x.tells(3, 0, 0), NONE);
        x.put(2, 0, 1);
        CHECK.due("P37 all of an int", x.put(2, 1, 65537), 1);
        CHECK.due("P37 it isn't 1", x.tells(2, 0, 0), 1);
        x.put(3, 1, 65536);
        CHECK.due("P37 it is 0", x.tells(3, 0, 0), 1);
        TrackCircuits minus = new TrackCircuits();
        minus.sheet(0, 0, 4);
        fill(minus, 0, 0, 0x8000 + 40, 0, 1);
        CHECK.due("P37 a short below 0", minus.load(0, 0, 0, 1), 0);
        fill(minus, 0, 0, 0x10000 + 40, 0, 1);
        CHECK.due("P37 a short of 40", minus.load(0, 0, 0, 1), 1);
    }

    private static void copy() {
        TrackCircuits x = Check.plain(0);
        CHECK.due("P38 bad", x.copy(4, 0, 0, 0, 0), BAD);
        CHECK.due("P38 bad", x.copy(0, 0, 4, 0, 0), BAD);
        CHECK.due("P38 bad", x.copy(-1, 0, 0, 0, 0), BAD);
        CHECK.due("P38 bad", x.copy(0, 0, -1, 0, 0), BAD);
        CHECK.due("P38 missing", x.copy(0, 0, 1, 0, 0), -11);
        x.sheet(0, 0, 12);
        CHECK.due("P38 missing", x.copy(0, 0, 1, 0, 0), -11);
        CHECK.due("P38 missing", x.copy(1, 0, 0, 0, 0), -11);
        x.sheet(1, 1, 12);
        CHECK.due("P38 unlike sorts", x.copy(0, 0, 1, 0, 0), -13);
        CHECK.due("P38 unlike sorts go ahead of outside", x.copy(0, -1, 1, 0, -1), -13);
        x.sheet(1, 0, 10);
        int[][] outside = {{-1, 0, 1}, {0, -1, 1}, {0, 0, -1}, {0, 0, 11}, {3, 0, 10}, {0, 1, 10}, {13, 0, 0},
            {0, 11, 0}, {Integer.MAX_VALUE, 0, 2}, {0, Integer.MAX_VALUE, 2}, {2, 2, Integer.MAX_VALUE},
            {0, 0, Integer.MIN_VALUE}};
        for (int[] o : outside) {
            CHECK.due("P38 outside", x.copy(0, o[0], 1, o[1], o[2]), -12);
        }
        CHECK.due("P38 none at the ends", x.copy(0, 12, 1, 10, 0), 0);
        fill(x, 0, 9, 9, 1, 40, 3, 4, 2, 50, 5, 6, 9, 9);
        CHECK.due("P38 eight", x.copy(0, 2, 1, 1, 8), 8);
        CHECK.due("P38 they came", x.load(1, 0, 1, 2), 2);
        int[] first = {40, 3, 4, 1};
        int[] second = {50, 5, 6, 2};
        for (int what = 0; what < 4; what++) {
            CHECK.due("P38 first", x.of(0, what), first[what]);
            CHECK.due("P38 second", x.of(1, what), second[what]);
        }
        CHECK.due("P38 onto itself, to the right", x.copy(0, 2, 0, 4, 8), 8);
        CHECK.due("P38 as they were", x.load(0, 0, 4, 2), 2);
        CHECK.due("P38 as they were", x.of(3, 0), 50);
        CHECK.due("P38 as they were", x.of(3, 2), 6);
        CHECK.due("P38 onto itself, to the left", x.copy(0, 4, 0, 3, 8), 8);
        CHECK.due("P38 as they were", x.load(0, 0, 3, 2), 2);
        CHECK.due("P38 as they were", x.of(5, 2), 6);
        CHECK.due("P38 whole", x.copy(1, 0, 0, 2, 10), 10);
        CHECK.due("P38 others stay", x.load(1, 0, 1, 2), 2);
        TrackCircuits ints = Check.plain(0);
        ints.sheet(2, 1, 40);
        ints.sheet(3, 1, 40);
        fill(ints, 2, 65536, 70, 0, 1);
        CHECK.due("P38 all of them", ints.copy(2, 0, 3, 0, 40), 40);
        CHECK.due("P38 ints stay whole", ints.load(3, 1, 0, 1), 0);
    }

    public static void main(String[] args) {
        image();
        load();
        count();
        sheet();
        put();
        copy();
        CHECK.end("HostTest");
    }
}
