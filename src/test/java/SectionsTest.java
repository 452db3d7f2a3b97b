/** Promises 1 to 10: sections, rules, trains, forced relays. */
public final class SectionsTest {
    private static final int BAD = TrackCircuits.BAD;
    private static final Check CHECK = new Check();

    private static void newObject() {
        TrackCircuits x = new TrackCircuits();
        for (int what = 0; what < 5; what++) {
            CHECK.due("P1 count " + what, x.count(what), 0);
            CHECK.due("P1 who " + what, x.who(what), 0);
        }
        CHECK.due("P1 of", x.of(0, 0), BAD);
        CHECK.due("P1 rule 0", x.rule(0, 20), 20);
        CHECK.due("P1 rule 1", x.rule(1, 10), 10);
        CHECK.due("P1 rule 2", x.rule(2, 1), 1);
        CHECK.due("P1 back", x.back(), TrackCircuits.STATE);
        CHECK.due("P1 log", x.log(-1), 0);
        for (int sheet = 0; sheet < 4; sheet++) {
            CHECK.due("P1 sheet " + sheet + " is missing", x.put(sheet, 0, 0), -11);
        }
    }

    private static void section() {
        TrackCircuits x = new TrackCircuits();
        int[][] bad = {{-1, 1, 0, 1}, {6, 1, 0, 1}, {0, 0, 0, 1}, {0, 100, 0, 1}, {0, 1, -1, 1}, {0, 1, 10, 1},
            {0, 1, 0, 0}, {0, 1, 0, 10}, {Integer.MIN_VALUE, 1, 0, 1}, {0, Integer.MAX_VALUE, 0, 1}};
        for (int[] b : bad) {
            CHECK.due("P2 bad", x.section(b[0], b[1], b[2], b[3]), BAD);
        }
        CHECK.due("P2 none came", x.count(0), 0);
        CHECK.due("P2 least", x.section(0, 1, 0, 1), 0);
        CHECK.due("P2 most", x.section(5, 99, 9, 9), 1);
        CHECK.due("P2 of kind", x.of(1, 3), 5);
        CHECK.due("P2 of feed", x.of(1, 0), 99);
        CHECK.due("P2 of loss", x.of(1, 1), 9);
        CHECK.due("P2 of length", x.of(1, 2), 9);
        CHECK.due("P2 DOWN at first", x.of(1, 6), 0);
        CHECK.due("P2 WAITS 0 at first", x.of(1, 7), 0);
        for (int i = 2; i < 8; i++) {
            CHECK.due("P2 number", x.section(i % 6, 10 + i, i, i), i);
        }
        CHECK.due("P2 full", x.section(0, 1, 0, 1), TrackCircuits.FULL);
        CHECK.due("P2 BAD goes ahead of FULL", x.section(0, 1, 0, 0), BAD);
        CHECK.due("P2 eight", x.count(0), 8);
        CHECK.due("P2 last stays", x.of(7, 0), 17);
    }

    private static void drop() {
        TrackCircuits x = Check.plain(3);
        CHECK.due("P3 moment", x.moment(), 3);
        x.train(2, 1);
        x.fault(0, 2);
        x.fault(1, 0);
        x.fault(3, 2);
        x.fault(2, 1);
        CHECK.due("P3 how many are left", x.drop(), 2);
        CHECK.due("P3 its faults go", x.count(1), 2);
        CHECK.due("P3 others stay", x.faultOf(0, 0), 1);
        CHECK.due("P3 others stay", x.faultOf(1, 0), 2);
        CHECK.due("P3 what was caught stays", x.faultOf(1, 2), 25);
        CHECK.due("P3 its train goes", x.count(3), 0);
        CHECK.due("P3 up", x.who(0), 3);
        CHECK.due("P3 log stays", x.log(-1), 3);
        CHECK.due("P3 one comes anew", x.section(0, 30, 0, 1), 2);
        CHECK.due("P3 it is DOWN", x.of(2, 6), 0);
        CHECK.due("P3 it has no WAITS", x.of(2, 7), 0);
        CHECK.due("P3 no train on it", x.who(3), 0);
        x.drop();
        x.drop();
        CHECK.due("P3 the last", x.drop(), 0);
        CHECK.due("P3 none", x.drop(), TrackCircuits.STATE);
    }

    private static void set() {
        TrackCircuits x = Check.yard(Check.row(1, 40, 2, 3));
        x.moment();
        x.moment();
        x.moment();
        CHECK.due("P4 UP", x.of(0, 6), 1);
        CHECK.due("P4 feed", x.set(0, 0, 99), 40);
        CHECK.due("P4 loss", x.set(0, 1, 9), 2);
        CHECK.due("P4 length", x.set(0, 2, 9), 3);
        CHECK.due("P4 kind", x.set(0, 3, 5), 1);
        CHECK.due("P4 feed is", x.of(0, 0), 99);
        CHECK.due("P4 loss is", x.of(0, 1), 9);
        CHECK.due("P4 length is", x.of(0, 2), 9);
        CHECK.due("P4 kind is", x.of(0, 3), 5);
        CHECK.due("P4 relay stays", x.of(0, 6), 1);
        CHECK.due("P4 WAITS stay", x.of(0, 7), 3);
        CHECK.due("P4 least feed", x.set(0, 0, 1), 99);
        CHECK.due("P4 least loss", x.set(0, 1, 0), 9);
        CHECK.due("P4 least length", x.set(0, 2, 1), 9);
        CHECK.due("P4 least kind", x.set(0, 3, 0), 5);
        int[][] bad = {{1, 0, 5}, {-1, 0, 5}, {0, -1, 5}, {0, 4, 5}, {0, 0, 0}, {0, 0, 100}, {0, 1, -1}, {0, 1, 10},
            {0, 2, 0}, {0, 2, 10}, {0, 3, -1}, {0, 3, 6}};
        for (int[] b : bad) {
            CHECK.due("P4 bad", x.set(b[0], b[1], b[2]), BAD);
        }
        CHECK.due("P4 stays", x.of(0, 0), 1);
    }

    private static void of() {
        TrackCircuits x = Check.yard(Check.row(0, 99, 9, 9), Check.row(1, 5, 9, 9), Check.row(2, 40, 3, 7),
            Check.row(3, 40, 0, 1), Check.row(4, 40, 0, 1), Check.row(5, 40, 0, 1));
        CHECK.due("P5 leak 81 by 10", x.of(0, 4), 8);
        CHECK.due("P5 current", x.of(0, 5), 91);
        CHECK.due("P5 current is 0 at least", x.of(1, 5), 0);
        CHECK.due("P5 leak 21 by 10, cut", x.of(2, 4), 2);
        x.rule(2, 9);
        CHECK.due("P5 leak by weather 9", x.of(0, 4), 72);
        CHECK.due("P5 current by weather 9", x.of(0, 5), 27);
        x.rule(2, 0);
        CHECK.due("P5 leak by weather 0", x.of(0, 4), 0);
        int[] looks = {0, 0, 1, 2, 2, 3};
        for (int s = 0; s < 6; s++) {
            CHECK.due("P5 looks", x.of(s, 8), looks[s]);
            CHECK.due("P5 kind", x.of(s, 3), s);
        }
        x.force(4, 1);
        CHECK.due("P5 UP", x.of(4, 6), 1);
        CHECK.due("P5 bad section", x.of(6, 0), BAD);
        CHECK.due("P5 bad section", x.of(-1, 0), BAD);
        CHECK.due("P5 bad what", x.of(0, 9), BAD);
        CHECK.due("P5 bad what", x.of(0, -1), BAD);
    }

    private static void taken() {
        String[] lines = {"0", "01", "02", "013", "04", "025"};
        for (int kind = 0; kind < 6; kind++) {
            TrackCircuits x = Check.yard(Check.row(kind, 7 + kind, 0, 1));
            for (int k = 0; k < 6; k++) {
                boolean is = lines[kind].indexOf('0' + k) >= 0;
                CHECK.due("P6 " + kind + " for " + k, x.taken(0, k), is ? 7 + kind : -13);
            }
            CHECK.due("P6 bad k", x.taken(0, 6), BAD);
            CHECK.due("P6 bad k", x.taken(0, -1), BAD);
            CHECK.due("P6 bad section", x.taken(1, 0), BAD);
            CHECK.due("P6 bad section", x.taken(-1, 0), BAD);
        }
        TrackCircuits x = Check.yard(Check.row(0, 9, 0, 1));
        x.set(0, 3, 3);
        CHECK.due("P6 by the kind that it has now", x.taken(0, 1), 9);
    }

    private static void rule() {
        TrackCircuits x = new TrackCircuits();
        CHECK.due("P7 pick", x.rule(0, 99), 20);
        CHECK.due("P7 pick was", x.rule(0, 0), 99);
        CHECK.due("P7 hold", x.rule(1, 99), 10);
        CHECK.due("P7 hold was", x.rule(1, 0), 99);
        CHECK.due("P7 weather", x.rule(2, 9), 1);
        CHECK.due("P7 weather was", x.rule(2, 0), 9);
        int[][] bad = {{-1, 1}, {3, 1}, {0, -1}, {0, 100}, {1, -1}, {1, 100}, {2, -1}, {2, 10}};
        for (int[] b : bad) {
            CHECK.due("P7 bad", x.rule(b[0], b[1]), BAD);
        }
        CHECK.due("P7 stays", x.rule(0, 20), 0);
    }

    private static void trains() {
        TrackCircuits x = Check.plain(3);
        CHECK.due("P8 none did", x.train(0, 0), 0);
        CHECK.due("P8 comes", x.train(0, 1), 0);
        CHECK.due("P8 stands already", x.train(0, 1), 1);
        CHECK.due("P8 one train", x.count(3), 1);
        CHECK.due("P8 current is 0", x.of(0, 5), 0);
        CHECK.due("P8 another", x.train(2, 1), 0);
        CHECK.due("P8 where", x.who(3), 5);
        CHECK.due("P8 bad", x.train(3, 1), BAD);
        CHECK.due("P8 bad", x.train(-1, 1), BAD);
        CHECK.due("P8 bad", x.train(0, 2), BAD);
        CHECK.due("P8 bad", x.train(0, -1), BAD);
        CHECK.due("P9 all at once, the last is gone", x.moves(), 2);
        CHECK.due("P9 truly", x.who(3), 2);
        x.train(0, 1);
        CHECK.due("P9 beside each other", x.moves(), 6);
        CHECK.due("P9 on", x.moves(), 4);
        CHECK.due("P9 gone", x.moves(), 0);
        CHECK.due("P8 goes", x.train(1, 1), 0);
        CHECK.due("P8 goes", x.train(1, 0), 1);
        CHECK.due("P8 gone", x.who(3), 0);
        CHECK.due("P9 without sections", new TrackCircuits().moves(), 0);
        TrackCircuits full = Check.plain(8);
        full.train(7, 1);
        full.train(6, 1);
        CHECK.due("P9 from the eighth", full.moves(), 128);
        CHECK.due("P9 gone from the eighth", full.moves(), 0);
    }

    private static void force() {
        TrackCircuits x = Check.plain(2);
        x.moment();
        x.moment();
        CHECK.due("P10 WAITS", x.of(0, 7), 2);
        CHECK.due("P10 down", x.force(0, 0), 1);
        CHECK.due("P10 is down", x.who(0), 2);
        CHECK.due("P10 WAITS are 0", x.of(0, 7), 0);
        CHECK.due("P10 others' stay", x.of(1, 7), 2);
        CHECK.due("P10 was down", x.force(0, 1), 0);
        CHECK.due("P10 is up", x.who(0), 3);
        CHECK.due("P10 was up", x.force(1, 1), 1);
        CHECK.due("P10 WAITS are 0 then too", x.of(1, 7), 0);
        CHECK.due("P10 bad", x.force(2, 1), BAD);
        CHECK.due("P10 bad", x.force(-1, 1), BAD);
        CHECK.due("P10 bad", x.force(0, 2), BAD);
        CHECK.due("P10 bad", x.force(0, -1), BAD);
    }

    public static void main(String[] args) {
        newObject();
        section();
        drop();
        set();
        of();
        taken();
        rule();
        trains();
        force();
        CHECK.end("SectionsTest");
    }
}
