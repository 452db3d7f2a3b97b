/** Promises 30 and 31: the tape and its texts. */
public final class TextsTest {
    private static final int BAD = TrackCircuits.BAD;
    private static final Check CHECK = new Check();

    private static void feed() {
        TrackCircuits x = new TrackCircuits();
        CHECK.due("P30 bad n", x.feed(0, 1, 1, 1, 1, 1), BAD);
        CHECK.due("P30 bad n", x.feed(6, 1, 1, 1, 1, 1), BAD);
        CHECK.due("P30 bad n", x.feed(-1, 1, 1, 1, 1, 1), BAD);
        for (int i = 0; i < 5; i++) {
            int[] low = new int[5];
            int[] high = new int[5];
            low[i] = -1;
            high[i] = 256;
            CHECK.due("P30 bad byte", x.feed(1, low[0], low[1], low[2], low[3], low[4]), BAD);
            CHECK.due("P30 bad byte", x.feed(1, high[0], high[1], high[2], high[3], high[4]), BAD);
        }
        CHECK.due("P30 none came", x.count(2), 0);
        CHECK.due("P30 one", x.feed(1, 0, 255, 255, 255, 255), 1);
        CHECK.due("P30 two", x.feed(2, 255, 0, 0, 0, 0), 3);
        CHECK.due("P30 count", x.count(2), 3);
        for (int i = 0; i < 11; i++) {
            CHECK.due("P30 five", x.feed(5, 32, 32, 32, 32, 32), 8 + 5 * i);
        }
        CHECK.due("P30 not all have room", x.feed(3, 1, 1, 1, 1, 1), TrackCircuits.FULL);
        CHECK.due("P30 BAD goes ahead of FULL", x.feed(3, 1, 1, 1, 1, 256), BAD);
        CHECK.due("P30 none came", x.count(2), 58);
        CHECK.due("P30 just room", x.feed(2, 1, 1, 1, 1, 1), 60);
        CHECK.due("P30 full", x.feed(1, 1, 1, 1, 1, 1), TrackCircuits.FULL);
        CHECK.due("P31 its fault", x.text(), -100);
        CHECK.due("P31 empty then", x.count(2), 0);
        TrackCircuits order = new TrackCircuits();
        order.feed(5, 'd', 'r', 'o', 'p', ';');
        order.feed(4, 'd', 'r', 'o', 'p', 'x');
        CHECK.due("P30 just the n, in that order", order.text(), 0);
    }

    private static void read(String text, int want) {
        CHECK.due("P31 '" + text + "'", Check.read(Check.plain(2), text), want);
    }

    private static void faults() {
        read("", -100);
        read("  ", -102);
        read("\n \n", -103);
        read(";", -100);
        read(" ;", -101);
        read("1", -100);
        read("A", -100);
        read("Moment", -100);
        read("momen", -100);
        read("moments", -100);
        read("momentmoment", -100);
        read("moment", 1);
        read("  moment\n", 1);
        read("moment;", -107);
        read("moment; ", -108);
        read("moment;;moment", -107);
        read("moment moment", -107);
        read("moment 1", -107);
        read("moment1", -106);
        read("moment,moment", -106);
        read("moment\tmoment", -106);
        read("moment ; \n moment", 2);
        read("moment;x", -107);
        read("train", -105);
        read("train ", -106);
        read("train;", -105);
        read("train ;", -106);
        read("train x", -106);
        read("train A", -106);
        read("train1", 1);
        read("train 01", 1);
        read("train 001", -106);
        read("train 100", -106);
        read("train 0 1", -108);
        read("train 0moment", -107);
        read("train 0 \n;gone 0", 2);
        read("section 0 40 1", -114);
        read("section 0 40 1 ", -115);
        read("section 0 40 1;", -114);
        read("section 0 40 123 1", -113);
        read("section 0 40 1 1 1", -117);
        read("section 0 40 1 1", 1);
        read("section0 40 1 1", 1);
        read("section 0 4011", -110);
        read("fault 0", -107);
        read("fault 0 1", 1);
        read("fault 0 1 1", -110);
        read("mend", -104);
        read("weather", -107);
        read("drop 1", -105);
        read("drop{", -104);
        read("drop`", -104);
        read("drop/", -104);
        read("drop:", -104);
        read("train /", -106);
        read("train :", -106);
        read("train 1:", -107);
        read("\u00e9", -100);
        read("moment;train 9;Q", -115);
    }

    private static void clauses() {
        TrackCircuits x = new TrackCircuits();
        CHECK.due("P31 sections", Check.read(x, "section 5 99 9 8;section 0 40 2 3;section 6 40 0 1"), 2);
        CHECK.due("P31 they came", x.count(0), 2);
        int[] five = {99, 9, 8, 5};
        int[] none = {40, 2, 3, 0};
        for (int what = 0; what < 4; what++) {
            CHECK.due("P31 section 0", x.of(0, what), five[what]);
            CHECK.due("P31 section 1", x.of(1, what), none[what]);
        }
        CHECK.due("P31 trains", Check.read(x, "train 0;train 1;train 1;train 2;gone 0;gone 0;gone 3"), 5);
        CHECK.due("P31 they stand", x.who(3), 2);
        CHECK.due("P31 faults", Check.read(x, "fault 2 0;fault 1 1;fault 0 1;fault 4 0;fault 0 2"), 3);
        CHECK.due("P31 they came", x.count(1), 3);
        CHECK.due("P31 of a kind", x.faultOf(0, 0), 2);
        CHECK.due("P31 at a section", x.faultOf(1, 1), 1);
        CHECK.due("P31 one caught", x.faultOf(0, 2), 20);
        CHECK.due("P31 more than there is room for", Check.read(x, "fault 3 0;fault 3 0;fault 3 0;fault 3 0"), 3);
        CHECK.due("P31 mended", Check.read(x, "mend 1;mend 1;mend 2"), 2);
        CHECK.due("P31 two less", x.count(1), 4);
        CHECK.due("P31 weather", Check.read(x, "weather 9;weather 10"), 1);
        CHECK.due("P31 it is", x.rule(2, 0), 9);
        CHECK.due("P31 without faults and trains", Check.read(x, "mend 0;gone 1;weather 0;moment;moment"), 5);
        CHECK.due("P31 truly", x.who(0), 3);
        CHECK.due("P31 log of the second", x.log(-1), 0);
        CHECK.due("P31 WAITS", x.of(0, 7), 2);
        CHECK.due("P31 drops", Check.read(x, "drop;drop;drop"), 2);
        CHECK.due("P31 none", x.count(0), 0);
        CHECK.due("P31 twelve clauses", Check.read(x, "drop;drop;drop;drop;drop;drop;drop;drop;drop;drop;drop;drop"), 0);
        TrackCircuits flaps = Check.flapping();
        CHECK.due("P31 one that flaps isn't done", Check.read(flaps, "moment;train 1;moment"), 2);
        CHECK.due("P31 done in turn", flaps.who(0), 1);
        TrackCircuits wrong = Check.plain(1);
        CHECK.due("P31 by a fault", Check.read(wrong, "train 0;drop;moment 1"), -120);
        CHECK.due("P31 nothing is done", wrong.count(0), 1);
        CHECK.due("P31 nothing is done", wrong.who(3), 0);
        CHECK.due("P31 the tape is empty by a fault, too", wrong.count(2), 0);
        TrackCircuits many = new TrackCircuits();
        for (int i = 0; i < 2; i++) {
            Check.read(many, "section0 9 0 1;section0 9 0 1;section0 9 0 1;section0 9 0 1");
        }
        CHECK.due("P31 eight came", many.count(0), 8);
        CHECK.due("P31 no more", Check.read(many, "section0 9 0 1"), 0);
    }

    public static void main(String[] args) {
        feed();
        faults();
        clauses();
        CHECK.end("TextsTest");
    }
}
