/** Boundary cases of promises 21 to 25: breaks, leaks, the proof, the fault to mend first. */
final class EdgesOfProof {
    private static final int NONE = Edges.NONE, BAD = Edges.BAD;

    private EdgesOfProof() {
    }

    /** Eight PLAINS, of which just the last is UNSAFE, with a RUST there under a TRAIN. */
    private static TrackCircuits rustyEnd() {
        TrackCircuits x = Check.plain(8);
        x.set(7, 0, 99);
        return x;
    }

    /** PICK 0: every relay is UP, whatever stands there. */
    private static TrackCircuits allUp(int sections) {
        TrackCircuits x = Check.plain(sections);
        x.rule(0, 0);
        return x;
    }

    private static void fill(TrackCircuits x, int kind, int section) {
        while (x.count(1) < 6) {
            x.fault(kind, section);
        }
    }

    // ---- 21 seen

    static void p21SectionIsOneThatThereIs(Edges e) {
        e.least("section", Edges::some, (x, v) -> x.seen(v), 0, 1, BAD);
        e.most("section", Edges::some, (x, v) -> x.seen(v), 2, 1, BAD);
        e.most("section", Edges::full, (x, v) -> x.seen(v), 7, 1, BAD);
        e.refused("none there", Edges::bare, x -> x.seen(0), BAD);
    }

    /** One SECTION by WEATHER 9, its LEAK 40 or so: whether a BREAK is SEEN. */
    private static int seenBy(int pick, int hold, int isUp) {
        TrackCircuits x = Check.yard(Check.row(0, 99, 5, 9));
        x.rule(2, 9);
        x.rule(0, pick);
        x.rule(1, hold);
        x.force(0, isUp);
        return x.seen(0);
    }

    static void p21HalfOfLeakAtPickAndHold(Edges e) {
        // LEAK 405 by 10 is 40
        e.dues("DOWN, PICK 20 and 21", Check.row(seenBy(20, 99, 0), seenBy(21, 99, 0)), 0, 1);
        e.dues("UP, HOLD 20 and 21", Check.row(seenBy(99, 20, 1), seenBy(99, 21, 1)), 0, 1);
        e.due("DOWN, HOLD isn't enough", seenBy(99, 0, 0), 1);
        e.due("PICK 0", seenBy(0, 99, 0), 0);
    }

    static void p21BehindAllOthersAlsoIfThereAre6(Edges e) {
        TrackCircuits x = Check.plain(2);
        fill(x, 2, 0);
        e.due("no more than 6 truly", x.fault(0, 0), Edges.FULL);
        e.due("six CROSSES ahead of it", x.seen(0), 1);
        e.due("six stay", x.count(1), 6);
        e.due("none is a BREAK", x.who(4), 0);
    }

    static void p21OneThatIsBrokenAlready(Edges e) {
        TrackCircuits x = Check.plain(1);
        x.fault(0, 0);
        e.due("seen", x.seen(0), 1);
        x.fault(0, 0);
        e.due("seen by three", x.seen(0), 1);
    }

    static void p21FlapsIsNo(Edges e) {
        TrackCircuits x = Check.flapping();
        x.section(0, 40, 0, 1);
        x.moment();
        e.due("the break makes it FLAP", x.seen(2), 0);
        e.due("one that calms", Check.flapping().seen(0), 1);
        e.due("FLAPS with it, too", Edges.flapping().seen(0), 0);
    }

    // ---- 22 bound

    static void p22WhatIs0Or1(Edges e) {
        e.least("what", Edges::some, (x, v) -> x.bound(v), 0, Edges.some().bound(0), BAD);
        e.most("what", Edges::some, (x, v) -> x.bound(v), 1, Edges.some().bound(1), BAD);
    }

    static void p22NoSections(Edges e) {
        TrackCircuits x = Edges.bare();
        e.dues("none WRONG by all, none UP by any", Check.row(x.bound(0), x.bound(1)), 9, NONE);
    }

    private static int[] bounds(int pick, int weather) {
        TrackCircuits x = Check.yard(Check.row(0, 99, 9, 9));
        x.rule(0, pick);
        x.rule(2, weather);
        return Check.row(x.bound(0), x.bound(1), x.rule(2, 0));
    }

    static void p22GreatestFrom0To9OrNone(Edges e) {
        // CURRENT is 99, 91, .. 35, 27; half of LEAK 0, 4, .. 32, 36
        e.dues("27", bounds(27, 1), 9, 7, 1);
        e.dues("28", bounds(28, 1), 8, 7, 1);
        e.dues("91", bounds(91, 9), 1, NONE, 9);
        e.dues("92", bounds(92, 9), 0, NONE, 9);
        e.dues("99", bounds(99, 0), 0, NONE, 0);
        TrackCircuits x = Check.yard(Check.row(0, 98, 9, 9));
        x.rule(0, 99);
        e.due("none", x.bound(0), NONE);
    }

    static void p22LeastFrom0To9OrNone(Edges e) {
        e.due("0", bounds(0, 5)[1], 0);
        e.due("by half of 8", bounds(4, 5)[1], 1);
        e.due("by half of 64", bounds(32, 0)[1], 8);
        e.due("by half of 72", bounds(36, 0)[1], 9);
        e.due("none", bounds(37, 0)[1], NONE);
    }

    static void p22SomeSectionMayBeTheLast(Edges e) {
        TrackCircuits x = Check.plain(8);
        e.due("none", x.bound(1), NONE);
        x.set(7, 1, 9);
        x.set(7, 2, 9);
        e.due("the eighth", x.bound(1), 5);
        fill(x, 3, 0);
        e.due("also if there are 6", x.bound(1), 5);
        e.due("six stay", x.count(1), 6);
    }

    static void p22FlapsLeavesNone(Edges e) {
        TrackCircuits x = Check.flapping();
        e.dues("by all", Check.row(x.bound(0), x.bound(1)), NONE, NONE);
        TrackCircuits y = Check.yard(Check.row(4, 40, 9, 9), Check.row(5, 40, 9, 9));
        // by WEATHER 3 CURRENT is 16, below PICK: both are DOWN, WRONG; below that it FLAPS; half of LEAK is 20 by 5
        e.dues("FLAPS or WRONG", Check.row(y.bound(0), y.bound(1)), NONE, 5);
    }

    // ---- 23 proof

    static void p23WhatIs0Or1(Edges e) {
        e.least("what", Edges::some, (x, v) -> x.proof(v), 0, Edges.some().proof(0), BAD);
        e.most("what", Edges::some, (x, v) -> x.proof(v), 1, Edges.some().proof(1), BAD);
    }

    static void p23NoSections(Edges e) {
        TrackCircuits x = Edges.bare();
        e.dues("the one CASE doesn't fail", Check.row(x.proof(0), x.proof(1)), 0, NONE);
    }

    static void p23NoneFails(Edges e) {
        TrackCircuits x = Check.plain(8);
        e.dues("none", Check.row(x.proof(0), x.proof(1)), 0, NONE);
    }

    static void p23TheLastAlone(Edges e) {
        TrackCircuits x = rustyEnd();
        e.dues("RUST at the eighth, a TRAIN there", Check.row(x.proof(0), x.proof(1)), 1, 3208);
    }

    static void p23EachSectionMayBeTheFirst(Edges e) {
        for (int s = 0; s < 8; s++) {
            TrackCircuits x = Check.plain(8);
            x.rule(2, 9);
            x.set(s, 1, 9);
            x.set(s, 2, 9);
            // half of LEAK 72 is above PICK: with any TRAIN elsewhere
            e.dues("a BREAK at " + s, Check.row(x.proof(1), x.proof(0)), 100 * (1 + 4 * s), 8);
            TrackCircuits y = Check.plain(8);
            y.set(s, 0, 79);
            y.fault(3, s);
            // a quarter of 79 is 19; one CROSS brings 25 more
            e.due("a CROSS at " + s, y.proof(1), s < 7 ? 100 * (3 + 4 * s) + s + 1 : NONE);
            TrackCircuits z = Check.plain(8);
            z.set(s, 0, 80);
            e.due("a RUST at " + s, z.proof(1), 100 * (4 + 4 * s) + s + 1);
        }
    }

    static void p23OneThatFlapsFails(Edges e) {
        TrackCircuits x = Check.flapping();
        e.due("without a FAULT or a TRAIN", x.proof(1), 0);
        x.section(0, 39, 0, 1);
        x.moment();
        e.due("by a TRAIN at the third, which keeps it calm", x.proof(1), 3);
        x.train(0, 1);
        // a quarter of 40 would hold a rusty one that is UP
        x.rule(1, 11);
        e.dues("calm by a TRAIN at the first", Check.row(x.proof(0), x.proof(1)), 0, NONE);
    }

    static void p23AllFail(Edges e) {
        TrackCircuits x = allUp(8);
        // without a TRAIN just the eight BREAKS fail
        e.dues("all with a TRAIN", Check.row(x.proof(0), x.proof(1)), 33 * 8 + 8, 1);
        x.train(7, 1);
        e.dues("all", Check.row(x.proof(0), x.proof(1)), 33 * 9, 0);
        TrackCircuits one = allUp(1);
        e.dues("one section", Check.row(one.proof(0), one.proof(1)), 5 + 1, 1);
    }

    static void p23OneMoreAlsoIfThereAre6(Edges e) {
        TrackCircuits x = rustyEnd();
        fill(x, 1, 0);
        e.dues("six WEAKS elsewhere", Check.row(x.proof(0), x.proof(1), x.count(1)), 1, 3208, 6);
    }

    static void p23ATrainThatStandsStays(Edges e) {
        TrackCircuits x = rustyEnd();
        x.train(7, 1);
        e.dues("t 0 .. 8, all with it", Check.row(x.proof(0), x.proof(1), x.count(3)), 9, 3200, 1);
    }

    // ---- 24 pick

    static void p24WhatIs0Or1(Edges e) {
        e.least("what", Edges::some, (x, v) -> x.pick(v), 0, Edges.some().pick(0), BAD);
        e.most("what", Edges::some, (x, v) -> x.pick(v), 1, Edges.some().pick(1), BAD);
    }

    static void p24NoSections(Edges e) {
        TrackCircuits x = Edges.bare();
        e.dues("by all", Check.row(x.pick(0), x.pick(1)), 0, 99);
    }

    static void p24LeastFrom0To99OrNone(Edges e) {
        TrackCircuits slow = Check.yard(Check.row(1, 99, 0, 1));
        e.due("0: a SLOW doesn't go UP", slow.pick(0), 0);
        TrackCircuits plain = Check.yard(Check.row(0, 3, 0, 1));
        e.due("1: by 0 all go UP", plain.pick(0), 1);
        e.due("behind a quarter of 393, 98", crossed(99).pick(0), 99);
        e.due("behind a quarter of 392, 98", crossed(98).pick(0), 99);
        e.due("behind a quarter of 391, 97", crossed(97).pick(0), 98);
        TrackCircuits held = allUp(1);
        held.rule(1, 0);
        held.force(0, 1);
        e.due("none: HOLD 0 holds", held.pick(0), NONE);
    }

    /** With a RUST and a TRAIN a quarter of FEED and six times 49. */
    private static TrackCircuits crossed(int feed) {
        TrackCircuits x = Check.yard(Check.row(0, feed, 0, 1), Check.row(0, 99, 0, 1));
        fill(x, 2, 0);
        return x;
    }

    static void p24GreatestFrom0To99OrNone(Edges e) {
        int[] feeds = {1, 2, 98, 99};
        for (int feed : feeds) {
            e.due("by feed " + feed, Check.yard(Check.row(0, feed, 0, 1)).pick(1), feed);
        }
        e.due("by more than 99", crossed(99).pick(1), 99);
        TrackCircuits dry = Check.yard(Check.row(0, 72, 9, 9));
        dry.rule(2, 9);
        e.due("0", dry.pick(1), 0);
        e.due("none: a SLOW is WRONG", Check.yard(Check.row(1, 99, 0, 1)).pick(1), NONE);
        e.due("none: FLAPS or WRONG", Check.flapping().pick(1), NONE);
    }

    static void p24RuleStays(Edges e) {
        TrackCircuits x = Check.plain(2);
        x.pick(0);
        x.pick(1);
        e.due("PICK", x.rule(0, 0), 20);
    }

    // ---- 25 fix

    static void p25NoFaults(Edges e) {
        e.due("no sections", Edges.bare().fix(), NONE);
        e.due("none", Check.plain(8).fix(), NONE);
        e.due("none, and it FLAPS", Check.flapping().fix(), NONE);
    }

    static void p25OneFault(Edges e) {
        TrackCircuits x = Check.yard(Check.row(0, 39, 0, 1));
        x.fault(1, 0);
        e.due("WRONG with it", x.fix(), 0);
        x.set(0, 0, 40);
        e.due("as few with it", x.fix(), NONE);
    }

    static void p25TheLastOfSix(Edges e) {
        TrackCircuits x = Check.plain(3);
        for (int i = 0; i < 5; i++) {
            x.fault(3, 0);
        }
        x.set(2, 0, 39);
        x.fault(1, 2);
        e.due("the sixth", x.fix(), 5);
        e.due("six stay", x.count(1), 6);
    }

    static void p25OfLikeOnesTheFirst(Edges e) {
        TrackCircuits x = Check.yard(Check.row(0, 20, 0, 1), Check.row(0, 20, 0, 1));
        x.fault(3, 1);
        x.fault(1, 1);
        x.fault(1, 0);
        e.due("either leaves one WRONG", x.fix(), 1);
        x.fault(1, 1);
        e.due("two at the second: the one at the first", x.fix(), 2);
    }

    static void p25FlapsIs16(Edges e) {
        TrackCircuits calmed = Check.flapping();
        calmed.fault(0, 0);
        e.due("without it FLAPS", calmed.fix(), NONE);
        TrackCircuits always = Check.flapping();
        always.fault(3, 0);
        e.due("FLAPS with and without", always.fix(), NONE);
    }

    static void p25EightAreFewerThan16(Edges e) {
        TrackCircuits x = Check.yard(Check.row(4, 15, 0, 1), Check.row(5, 40, 0, 1));
        for (int s = 2; s < 8; s++) {
            x.section(0, 1, 0, 1);
        }
        x.moment();
        e.due("all WRONG", x.who(2), 255);
        x.fault(2, 0);
        e.due("FLAPS with it", x.moment(), Edges.STATE);
        e.due("better without it", x.fix(), 0);
    }
}
