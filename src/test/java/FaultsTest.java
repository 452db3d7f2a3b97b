/** Promises 11 to 13, and what FAULTS make of a CURRENT. */
public final class FaultsTest {
    private static final int BAD = TrackCircuits.BAD;
    private static final Check CHECK = new Check();

    private static void fault() {
        TrackCircuits x = Check.yard(Check.row(0, 40, 5, 4), Check.row(0, 33, 0, 1));
        CHECK.due("P11 bad kind", x.fault(-1, 0), BAD);
        CHECK.due("P11 bad kind", x.fault(4, 0), BAD);
        CHECK.due("P11 bad section", x.fault(0, -1), BAD);
        CHECK.due("P11 bad section", x.fault(0, 2), BAD);
        for (int i = 0; i < 6; i++) {
            CHECK.due("P11 how many", x.fault(i % 4, i % 2), i + 1);
        }
        CHECK.due("P11 full", x.fault(0, 0), TrackCircuits.FULL);
        CHECK.due("P11 BAD goes ahead of FULL", x.fault(0, 2), BAD);
        CHECK.due("P11 six", x.count(1), 6);
    }

    private static void currents() {
        TrackCircuits x = Check.yard(Check.row(0, 41, 5, 4), Check.row(0, 33, 0, 1));
        x.rule(2, 9);
        CHECK.due("leak", x.of(0, 4), 18);
        CHECK.due("current", x.of(0, 5), 23);
        x.fault(1, 0);
        CHECK.due("WEAK, cut", x.of(0, 5), 11);
        x.fault(2, 0);
        CHECK.due("CROSS behind WEAK", x.of(0, 5), 27);
        x.fault(1, 0);
        CHECK.due("WEAK behind CROSS", x.of(0, 5), 13);
        x.fault(0, 0);
        CHECK.due("BREAK is half of LEAK, whatever was ahead", x.of(0, 5), 9);
        x.rule(2, 5);
        CHECK.due("of LEAK as it is now", x.of(0, 5), 5);
        x.fault(2, 0);
        CHECK.due("CROSS behind BREAK", x.of(0, 5), 21);
        x.fault(3, 0);
        CHECK.due("RUST is nothing by itself", x.of(0, 5), 21);
        x.train(0, 1);
        CHECK.due("a quarter, cut, under a TRAIN", x.of(0, 5), 5);
        CHECK.due("others stay", x.of(1, 5), 33);
        x.train(1, 1);
        CHECK.due("0 without RUST", x.of(1, 5), 0);
        CHECK.due("all currents", x.count(4), 5);
        TrackCircuits rustAhead = Check.yard(Check.row(0, 40, 0, 1), Check.row(0, 90, 0, 1));
        rustAhead.fault(3, 0);
        rustAhead.fault(2, 0);
        rustAhead.train(0, 1);
        CHECK.due("a quarter behind all faults, RUST wherever it stands", rustAhead.of(0, 5), 21);
        TrackCircuits much = Check.yard(Check.row(0, 99, 0, 1), Check.row(0, 99, 0, 1));
        for (int i = 0; i < 6; i++) {
            much.fault(2, 0);
        }
        CHECK.due("six times 49 more", much.of(0, 5), 99 + 6 * 49);
    }

    private static void caught() {
        TrackCircuits x = Check.yard(Check.row(0, 40, 0, 1), Check.row(0, 33, 9, 9));
        x.fault(2, 0);
        CHECK.due("P12 half of the feed, cut", x.faultOf(0, 2), 16);
        x.set(1, 0, 90);
        CHECK.due("P12 as it came", x.faultOf(0, 2), 16);
        CHECK.due("current by what it caught", x.of(0, 5), 56);
        x.fault(2, 1);
        CHECK.due("P12 none right of it", x.faultOf(1, 2), 0);
        x.section(0, 50, 0, 1);
        CHECK.due("P12 still 0", x.faultOf(1, 2), 0);
        TrackCircuits dropped = Check.plain(2);
        dropped.drop();
        dropped.fault(2, 0);
        CHECK.due("P12 none any more right of it", dropped.faultOf(0, 2), 0);
        x.fault(0, 1);
        x.fault(1, 1);
        x.fault(3, 1);
        for (int i = 2; i < 5; i++) {
            CHECK.due("P12 others caught 0", x.faultOf(i, 2), 0);
            CHECK.due("P12 section", x.faultOf(i, 1), 1);
        }
        CHECK.due("P12 kind", x.faultOf(2, 0), 0);
        CHECK.due("P12 kind", x.faultOf(3, 0), 1);
        CHECK.due("P12 kind", x.faultOf(4, 0), 3);
        CHECK.due("P12 bad i", x.faultOf(5, 0), BAD);
        CHECK.due("P12 bad i", x.faultOf(-1, 0), BAD);
        CHECK.due("P12 bad what", x.faultOf(0, 3), BAD);
        CHECK.due("P12 bad what", x.faultOf(0, -1), BAD);
    }

    private static void mend() {
        TrackCircuits x = Check.plain(3);
        x.fault(0, 0);
        x.fault(2, 1);
        x.fault(1, 0);
        x.fault(3, 2);
        CHECK.due("P13 bad", x.mend(3), BAD);
        CHECK.due("P13 bad", x.mend(-1), BAD);
        CHECK.due("P13 how many", x.mend(0), 2);
        CHECK.due("P13 left", x.count(1), 2);
        CHECK.due("P13 those behind are less", x.faultOf(0, 0), 2);
        CHECK.due("P13 with what was caught", x.faultOf(0, 2), 25);
        CHECK.due("P13 those behind are less", x.faultOf(1, 0), 3);
        CHECK.due("P13 their sections stay", x.faultOf(1, 1), 2);
        CHECK.due("P13 no more", x.faultOf(2, 0), BAD);
        CHECK.due("P13 none there", x.mend(0), 0);
        CHECK.due("P13 current is whole", x.of(0, 5), 50);
        CHECK.due("P13 no break", x.who(4), 0);
    }

    public static void main(String[] args) {
        fault();
        currents();
        caught();
        mend();
        CHECK.end("FaultsTest");
    }
}
