/** Boundary cases of promises 11 to 13, and of what FAULTS make of a CURRENT. */
final class EdgesOfFaults {
    private static final int BAD = Edges.BAD, FULL = Edges.FULL;

    private EdgesOfFaults() {
    }

    // ---- 11 fault

    static void p11KindIs0To3(Edges e) {
        e.least("kind", Edges::some, (x, v) -> x.fault(v, 0), 0, 4, BAD);
        e.most("kind", Edges::some, (x, v) -> x.fault(v, 0), 3, 4, BAD);
    }

    static void p11SectionIsOneThatThereIs(Edges e) {
        e.least("section", Edges::some, (x, v) -> x.fault(0, v), 0, 4, BAD);
        e.most("section", Edges::some, (x, v) -> x.fault(0, v), 2, 4, BAD);
        e.refused("none there", Edges::bare, x -> x.fault(0, 0), BAD);
    }

    static void p11SixAtMost(Edges e) {
        TrackCircuits x = Check.plain(8);
        for (int i = 0; i < 6; i++) {
            e.due("how many", x.fault(i % 4, 7 - i), i + 1);
            e.due("count", x.count(1), i + 1);
        }
        e.due("a seventh", x.fault(3, 0), FULL);
        for (int kind = 0; kind < 4; kind++) {
            int k = kind;
            e.refused("a seventh of kind " + kind, Edges::full, y -> y.fault(k, 0), FULL);
        }
        x.mend(7);
        e.due("room again", x.fault(3, 0), 6);
        e.due("full again", x.fault(3, 0), FULL);
    }

    static void p11BadGoesAheadOfFull(Edges e) {
        e.refused("kind", Edges::full, x -> x.fault(4, 0), BAD);
        e.refused("kind", Edges::full, x -> x.fault(-1, 0), BAD);
        e.refused("section", Edges::full, x -> x.fault(0, 8), BAD);
        e.refused("section", Edges::full, x -> x.fault(0, -1), BAD);
    }

    private static int currentWith(int feed, int loss, int length, int... kinds) {
        TrackCircuits x = Check.yard(Check.row(0, feed, loss, length), Check.row(0, 99, 0, 1));
        x.rule(2, 9);
        for (int kind : kinds) {
            x.fault(kind, 0);
        }
        return x.of(0, 5);
    }

    static void p11BreakIsHalfOfLeakCut(Edges e) {
        e.due("of 0", currentWith(99, 0, 9, 0), 0);
        e.due("of 1", currentWith(99, 1, 2, 0), 0);
        e.due("of 2", currentWith(99, 1, 3, 0), 1);
        e.due("of 3", currentWith(99, 1, 4, 0), 1);
        e.due("of the greatest, 72", currentWith(99, 9, 9, 0), 36);
        e.due("more than the feed", currentWith(1, 9, 9, 0), 36);
    }

    static void p11WeakIsHalfCut(Edges e) {
        e.due("of 0", currentWith(1, 9, 9, 1), 0);
        e.due("of 1", currentWith(1, 0, 1, 1), 0);
        e.due("of 99", currentWith(99, 0, 1, 1), 49);
        e.due("six times of 99", currentWith(99, 0, 1, 1, 1, 1, 1, 1, 1), 1);
        e.due("six times of 63", currentWith(63, 0, 1, 1, 1, 1, 1, 1, 1), 0);
    }

    static void p11CrossAdds(Edges e) {
        e.due("to 0", currentWith(1, 9, 9, 2), 49);
        e.due("six times to 99: the most that can come", currentWith(99, 0, 1, 2, 2, 2, 2, 2, 2), 393);
        e.due("ahead of a BREAK it is nothing", currentWith(99, 0, 1, 2, 2, 0), 0);
        e.due("behind a BREAK", currentWith(99, 0, 1, 0, 2, 2), 98);
    }

    static void p11OneBehindTheOtherAsTheyCame(Edges e) {
        e.due("WEAK, CROSS", currentWith(50, 0, 1, 1, 2), 74);
        e.due("CROSS, WEAK", currentWith(50, 0, 1, 2, 1), 49);
        e.due("WEAK, CROSS, WEAK", currentWith(50, 0, 1, 1, 2, 1), 37);
        e.due("RUST alone", currentWith(50, 0, 1, 3, 3, 3, 3, 3, 3), 50);
    }

    // ---- 12 faultOf

    static void p12NoneIsBad(Edges e) {
        e.refused("none", Edges::one, x -> x.faultOf(0, 0), BAD);
        e.refused("no sections", Edges::bare, x -> x.faultOf(0, 0), BAD);
    }

    static void p12NumberIsOneThatThereIs(Edges e) {
        e.least("i", Edges::some, (x, v) -> x.faultOf(v, 0), 0, 1, BAD);
        e.most("i", Edges::some, (x, v) -> x.faultOf(v, 0), 2, 3, BAD);
        e.least("i of six", Edges::full, (x, v) -> x.faultOf(v, 1), 0, 1, BAD);
        e.most("i of six", Edges::full, (x, v) -> x.faultOf(v, 1), 5, 6, BAD);
    }

    static void p12WhatIs0To2(Edges e) {
        e.least("what", Edges::some, (x, v) -> x.faultOf(1, v), 0, 2, BAD);
        e.most("what", Edges::some, (x, v) -> x.faultOf(1, v), 2, 27, BAD);
    }

    private static int caught(int feed) {
        TrackCircuits x = Check.yard(Check.row(0, 40, 0, 1), Check.row(0, feed, 9, 9));
        x.rule(2, 9);
        x.fault(2, 0);
        return x.faultOf(0, 2);
    }

    static void p12CrossCaughtHalfCut(Edges e) {
        e.dues("of 1, 2, 3, 98, 99", Check.row(caught(1), caught(2), caught(3), caught(98), caught(99)),
            0, 1, 1, 49, 49);
    }

    static void p12CrossAtTheLastCaught0(Edges e) {
        TrackCircuits x = Check.plain(8);
        x.fault(2, 7);
        e.dues("at the eighth", Check.row(x.faultOf(0, 1), x.faultOf(0, 2)), 7, 0);
        x.fault(2, 6);
        e.due("at the seventh", x.faultOf(1, 2), 25);
        TrackCircuits one = Edges.one();
        one.fault(2, 0);
        e.due("at the only one", one.faultOf(0, 2), 0);
        one.section(0, 99, 0, 1);
        e.due("also if one comes later", one.faultOf(0, 2), 0);
        e.due("current", one.of(0, 5), 40);
    }

    static void p12CaughtStaysWhateverComesRightOfIt(Edges e) {
        TrackCircuits x = Check.plain(2);
        x.fault(2, 0);
        x.set(1, 0, 99);
        e.due("another feed", x.faultOf(0, 2), 25);
        x.drop();
        e.due("none any more", x.faultOf(0, 2), 25);
        x.section(0, 1, 0, 1);
        e.due("another section", x.faultOf(0, 2), 25);
        e.due("a later one catches anew", x.fault(2, 0), 2);
        e.due("half of 1", x.faultOf(1, 2), 0);
    }

    static void p12OthersCaught0(Edges e) {
        for (int kind = 0; kind < 4; kind++) {
            TrackCircuits x = Check.plain(2);
            x.fault(kind, 0);
            e.due("kind " + kind, x.faultOf(0, 2), kind == 2 ? 25 : 0);
        }
    }

    // ---- 13 mend

    static void p13SectionIsOneThatThereIs(Edges e) {
        e.least("section", Edges::some, (x, v) -> x.mend(v), 0, 1, BAD);
        e.most("section", Edges::some, (x, v) -> x.mend(v), 2, 1, BAD);
        e.most("section", Edges::full, (x, v) -> x.mend(v), 7, 0, BAD);
        e.refused("none there", Edges::bare, x -> x.mend(0), BAD);
    }

    static void p13NoneOneAndSix(Edges e) {
        TrackCircuits x = Check.plain(8);
        e.due("none", x.mend(7), 0);
        x.fault(0, 7);
        e.due("none at another", x.mend(6), 0);
        e.due("one", x.mend(7), 1);
        e.due("none any more", x.mend(7), 0);
        for (int i = 0; i < 6; i++) {
            x.fault(i % 4, 7);
        }
        e.due("six", x.mend(7), 6);
        e.due("none any more", x.count(1), 0);
        e.due("current is whole", x.of(7, 5), 50);
    }

    static void p13ThoseBehindAreOneLess(Edges e) {
        TrackCircuits x = Check.plain(3);
        int[] places = {0, 1, 0, 2, 0, 1};
        for (int i = 0; i < 6; i++) {
            x.fault(2, places[i]);
        }
        e.due("three", x.mend(0), 3);
        e.dues("sections", Check.row(x.faultOf(0, 1), x.faultOf(1, 1), x.faultOf(2, 1), x.faultOf(3, 1)), 1, 2, 1, BAD);
        e.dues("caught", Check.row(x.faultOf(0, 2), x.faultOf(1, 2), x.faultOf(2, 2)), 25, 0, 25);
        e.due("the next comes behind them", x.fault(3, 0), 4);
        e.due("its number", x.faultOf(3, 0), 3);
    }
}
