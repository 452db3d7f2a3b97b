/** Boundary cases of promises 14 to 20: moments truly and in thought. */
final class EdgesOfMoments {
    private static final int NONE = Edges.NONE, BAD = Edges.BAD, STATE = Edges.STATE;

    private EdgesOfMoments() {
    }

    /** How many CHANGES a MOMENT has in a yard of one SECTION, DOWN or UP. */
    private static int changes(int kind, int feed, int isUp) {
        TrackCircuits x = Check.yard(Check.row(kind, feed, 0, 1));
        x.force(0, isUp);
        return x.moment();
    }

    private static TrackCircuits ruled(int pick, int hold, int feed) {
        TrackCircuits x = Check.yard(Check.row(0, feed, 0, 1));
        x.rule(0, pick);
        x.rule(1, hold);
        return x;
    }

    /** The longest that settles of all that there are: 36 CHANGES. */
    private static TrackCircuits longest() {
        TrackCircuits x = new TrackCircuits();
        int[] kinds = {5, 4, 4, 4, 4, 5, 4, 3};
        int[] feeds = {45, 45, 25, 25, 25, 45, 45, 5};
        for (int s = 0; s < 8; s++) {
            x.section(kinds[s], feeds[s], 0, 1);
        }
        x.force(0, 1);
        x.force(6, 1);
        x.force(7, 1);
        return x;
    }

    // ---- 14 moment

    static void p14NoSections(Edges e) {
        TrackCircuits x = Edges.bare();
        e.due("no changes", x.moment(), 0);
        e.due("again", x.moment(), 0);
    }

    static void p14PickOrMore(Edges e) {
        e.dues("DOWN, by 20 and 19", Check.row(changes(0, 20, 0), changes(0, 19, 0)), 1, 0);
    }

    static void p14HoldOrMoreAndUp(Edges e) {
        e.dues("UP, by 10 and 9", Check.row(changes(0, 10, 1), changes(0, 9, 1)), 0, 1);
        e.due("HOLD alone isn't enough", changes(0, 10, 0), 0);
    }

    static void p14PickAtItsEnds(Edges e) {
        TrackCircuits dry = ruled(0, 99, 1);
        dry.train(0, 1);
        e.due("PICK 0: a current of 0 is enough", dry.moment(), 1);
        e.due("and counts for WAITS", dry.of(0, 7), 1);
        e.due("PICK 99 by 99", ruled(99, 99, 99).moment(), 1);
        e.due("PICK 99 by 98", ruled(99, 99, 98).moment(), 0);
    }

    static void p14HoldAtItsEnds(Edges e) {
        TrackCircuits dry = ruled(99, 0, 1);
        dry.train(0, 1);
        dry.force(0, 1);
        e.due("HOLD 0: a current of 0 holds", dry.moment(), 0);
        TrackCircuits high = ruled(50, 99, 50);
        high.force(0, 1);
        e.due("HOLD above PICK: PICK is enough", high.moment(), 0);
        high.set(0, 0, 49);
        e.due("below both", high.moment(), 1);
    }

    static void p14WaitsBelow2(Edges e) {
        for (int kind = 1; kind < 4; kind += 2) {
            TrackCircuits x = Check.yard(Check.row(kind, 40, 0, 1));
            e.dues("DOWN by 0 and 1, UP by 2", Check.row(x.moment(), x.moment(), x.moment()), 0, 0, 1);
            e.due("forced DOWN, WAITS 0", x.force(0, 0), 1);
            e.dues("anew", Check.row(x.moment(), x.moment(), x.moment()), 0, 0, 1);
            e.due("UP with WAITS 0 stays", x.force(0, 1), 1);
            e.due("no change", x.moment(), 0);
        }
    }

    static void p14WaitsOf3AreNotBelow2(Edges e) {
        for (int kind = 1; kind < 4; kind += 2) {
            TrackCircuits x = Check.yard(Check.row(4, 40, 0, 1), Check.row(0, 40, 0, 1));
            for (int i = 0; i < 3; i++) {
                x.moment();
            }
            x.set(0, 3, kind);
            e.dues("DOWN, WAITS 3", Check.row(x.of(0, 6), x.of(0, 7)), 0, 3);
            e.due("goes UP", x.moment(), 1);
        }
    }

    static void p14StickWithOneLeftOfItDown(Edges e) {
        TrackCircuits x = Check.yard(Check.row(0, 1, 0, 1), Check.row(2, 40, 0, 1));
        e.due("DOWN stays", x.moment(), 0);
        x.force(1, 1);
        e.due("UP stays", x.moment(), 0);
        x.set(1, 0, 9);
        e.due("below HOLD", x.moment(), 1);
        x.force(0, 1);
        x.set(0, 0, 40);
        x.set(1, 0, 19);
        e.due("left of it UP, but below PICK", x.moment(), 0);
        x.set(1, 0, 20);
        e.due("left of it UP, by PICK", x.moment(), 1);
    }

    static void p14BackWithOneRightOfItUp(Edges e) {
        TrackCircuits x = Check.yard(Check.row(4, 20, 0, 1), Check.row(0, 40, 0, 1));
        x.moment();
        e.due("DOWN", x.who(0), 2);
        x.force(0, 1);
        e.due("UP goes DOWN", x.moment(), 1);
        x.train(1, 1);
        e.due("right of it DOWN, by PICK", x.moment(), 2);
        x.set(0, 0, 9);
        e.due("below HOLD", x.moment(), 1);
    }

    /** What a MOMENT changes: KINDS and FEEDS of SECTIONS, the relays that are UP at first. */
    private static void changesAre(Edges e, String what, String kinds, String feeds, int up, int... changes) {
        TrackCircuits x = new TrackCircuits();
        String[] each = feeds.split(" ");
        for (int s = 0; s < each.length; s++) {
            x.section(kinds.charAt(s) - '0', Integer.parseInt(each[s]), 0, 1);
            x.force(s, up >> s & 1);
        }
        e.due(what, x.moment(), changes.length);
        for (int i = 0; i < changes.length; i++) {
            e.due(what + ", log " + i, x.log(i), changes[i]);
        }
    }

    static void p14TheQueueEndsWhenNoneThatLooksIsLeft(Edges e) {
        // a PLAIN doesn't look: none comes again
        changesAre(e, "none looks", "00", "40 40", 0, 1, 11);
        changesAre(e, "the left one looks right", "40", "40 40", 0, 1, 11, 0);
        changesAre(e, "the right one looks left, and waits still", "02", "40 40", 0, 1, 11);
        changesAre(e, "the left one comes ahead of the right one", "455", "45 25 45", 3, 0, 10, 1, 11, 0, 21);
        changesAre(e, "the left one comes behind those that wait", "402", "40 40 40", 0, 1, 11, 21, 0);
        changesAre(e, "one that looks to the other side doesn't come", "45242", "25 25 45 45 45", 11,
            0, 10, 41, 1, 30, 11, 0, 21);
    }

    static void p14WaitsAre0BelowPick(Edges e) {
        TrackCircuits x = Check.plain(1);
        x.moment();
        x.moment();
        x.moment();
        x.set(0, 0, 20);
        x.moment();
        e.due("by PICK", x.of(0, 7), 3);
        x.set(0, 0, 19);
        x.moment();
        e.dues("one below: UP, but WAITS 0", Check.row(x.of(0, 6), x.of(0, 7)), 1, 0);
    }

    static void p14WaitsOfCodedByAllOfTheCurrent(Edges e) {
        TrackCircuits x = Check.yard(Check.row(3, 20, 0, 1), Check.row(0, 1, 0, 1));
        x.moment();
        e.due("20, half of it 10", x.of(0, 7), 1);
        x.set(0, 0, 19);
        x.moment();
        e.due("19", x.of(0, 7), 0);
    }

    static void p14HalfOfCodedIsCut(Edges e) {
        TrackCircuits x = Check.yard(Check.row(3, 39, 0, 1), Check.row(0, 1, 0, 1));
        x.moment();
        x.moment();
        e.due("half of 39 is below PICK", x.moment(), 0);
        x.set(0, 0, 40);
        e.due("half of 40 is PICK", x.moment(), 1);
        x.set(0, 0, 20);
        e.due("half of 20 is HOLD", x.moment(), 0);
        x.set(0, 0, 19);
        e.due("half of 19 is below HOLD", x.moment(), 1);
    }

    static void p14NoneBesideAnEnd(Edges e) {
        e.dues("the only one, of each kind", Check.row(changes(0, 40, 0), changes(2, 40, 0), changes(4, 40, 0),
            changes(5, 40, 0)), 1, 1, 1, 1);
        e.dues("UP stays", Check.row(changes(1, 10, 1), changes(2, 10, 1), changes(3, 10, 1), changes(4, 10, 1),
            changes(5, 10, 1)), 0, 0, 0, 0, 0);
        TrackCircuits x = Check.yard(Check.row(0, 1, 0, 1), Check.row(3, 20, 0, 1));
        x.moment();
        x.moment();
        e.due("a CODED at the end: by all of 20", x.moment(), 1);
    }

    static void p14GuardAtTheEnds(Edges e) {
        TrackCircuits first = Check.yard(Check.row(5, 40, 0, 1), Check.row(0, 1, 0, 1));
        e.due("the first, DOWN: none beside it is UP", first.moment(), 0);
        first.force(0, 1);
        e.due("the first, UP: goes DOWN", first.moment(), 1);
        TrackCircuits last = Check.yard(Check.row(0, 1, 0, 1), Check.row(5, 40, 0, 1));
        last.force(1, 1);
        e.due("the last, UP: goes DOWN", last.moment(), 1);
        e.due("the last, DOWN: stays", last.moment(), 0);
    }

    static void p14NoneOneAndEightChanges(Edges e) {
        TrackCircuits x = Check.plain(8);
        e.dues("eight, then none", Check.row(x.moment(), x.moment()), 8, 0);
        x.train(7, 1);
        e.due("one", x.moment(), 1);
    }

    static void p14AsManyChangesAsSettle(Edges e) {
        TrackCircuits x = longest();
        e.due("36", x.moment(), 36);
        e.due("then none", x.moment(), 0);
    }

    static void p14FlapsLeavesAllAsAhead(Edges e) {
        e.refused("flapping", Edges::flapping, TrackCircuits::moment, STATE);
        TrackCircuits x = Edges.flapping();
        for (int i = 0; i < 3; i++) {
            e.due("each time", x.moment(), STATE);
        }
        e.dues("who", Edges.whoAll(x), 3, 1, 4, 1, 0);
        e.dues("WAITS", Check.row(x.of(0, 7), x.of(1, 7), x.of(2, 7)), 1, 0, 0);
        x.train(1, 1);
        e.due("calm again", x.moment(), 2);
    }

    // ---- 15 log

    static void p15NumberIsNoneOrMore(Edges e) {
        e.least("i", Edges::full, (x, v) -> x.log(v), NONE, Edges.full().log(NONE), BAD);
        e.due("the greatest int", Edges.full().log(Edges.GREATEST), NONE);
    }

    static void p15NoMoment(Edges e) {
        TrackCircuits x = Edges.one();
        e.dues("none, how many and the first", Check.row(x.log(NONE), x.log(0)), 0, NONE);
        x.run(3, 0);
        x.order(0);
        e.due("those in thought don't count", x.log(NONE), 0);
    }

    static void p15MomentWithoutChanges(Edges e) {
        TrackCircuits x = Edges.one();
        x.moment();
        e.dues("one", Check.row(x.log(NONE), x.log(0), x.log(1)), 1, 1, NONE);
        x.moment();
        e.dues("none", Check.row(x.log(NONE), x.log(0)), 0, NONE);
    }

    static void p15FirstAndLastOfEight(Edges e) {
        TrackCircuits x = Check.plain(8);
        x.moment();
        e.dues("UP", Check.row(x.log(NONE), x.log(0), x.log(7), x.log(8)), 8, 1, 71, NONE);
        for (int s = 0; s < 8; s++) {
            x.train(s, 1);
        }
        x.moment();
        e.dues("DOWN", Check.row(x.log(NONE), x.log(0), x.log(7), x.log(8)), 8, 0, 70, NONE);
    }

    static void p15AsManyAsThereMayBe(Edges e) {
        TrackCircuits x = longest();
        x.moment();
        e.due("how many", x.log(NONE), 36);
        int up = 0b11000001;
        for (int i = 0; i < 36; i++) {
            int change = x.log(i);
            e.due("it changes, " + i, up >> change / 10 & 1, 1 - change % 10);
            up ^= 1 << change / 10;
        }
        e.due("all together", up, x.who(0));
        e.due("no more", x.log(36), NONE);
    }

    static void p15OneThatFlapsStaysOut(Edges e) {
        TrackCircuits x = Edges.flapping();
        x.moment();
        e.dues("of that ahead", Check.row(x.log(NONE), x.log(0), x.log(1)), 1, 1, NONE);
    }

    static void p15StaysBehindADrop(Edges e) {
        TrackCircuits x = Check.plain(1);
        x.moment();
        x.drop();
        e.dues("of a section that is none any more", Check.row(x.log(NONE), x.log(0)), 1, 1);
        e.due("one without sections", x.moment(), 0);
        e.due("is the latest then", x.log(NONE), 0);
    }

    // ---- 16 who

    static void p16WhatIs0To4(Edges e) {
        e.least("what", Edges::full, (x, v) -> x.who(v), 0, Edges.full().who(0), BAD);
        e.most("what", Edges::full, (x, v) -> x.who(v), 4, Edges.full().who(4), BAD);
    }

    static void p16NoneAndAllEight(Edges e) {
        e.dues("no sections", Edges.whoAll(Edges.bare()), 0, 0, 0, 0, 0);
        TrackCircuits x = Check.plain(8);
        e.dues("all WRONG", Edges.whoAll(x), 0, 0, 255, 0, 0);
        for (int s = 0; s < 8; s++) {
            x.force(s, 1);
        }
        e.dues("all UP", Edges.whoAll(x), 255, 0, 0, 0, 0);
        for (int s = 0; s < 8; s++) {
            x.train(s, 1);
        }
        e.dues("all UNSAFE", Edges.whoAll(x), 255, 255, 0, 255, 0);
        for (int s = 0; s < 6; s++) {
            x.train(s, 0);
            x.fault(0, s);
        }
        e.dues("six by breaks", Edges.whoAll(x), 255, 255, 0, 192, 63);
    }

    static void p16OnlyABreakTroubles(Edges e) {
        TrackCircuits x = Check.plain(4);
        for (int kind = 0; kind < 4; kind++) {
            x.fault(kind, kind);
        }
        e.dues("DOWN", Edges.whoAll(x), 0, 0, 14, 0, 1);
        for (int s = 0; s < 4; s++) {
            x.force(s, 1);
        }
        e.dues("UP", Edges.whoAll(x), 15, 1, 0, 0, 1);
        x.fault(0, 0);
        x.train(0, 1);
        e.dues("two breaks and a train are one", Edges.whoAll(x), 15, 1, 0, 1, 1);
    }

    // ---- 17 aspect

    static void p17SectionIsOneThatThereIs(Edges e) {
        e.least("section", Edges::full, (x, v) -> x.aspect(v), 0, Edges.full().aspect(0), BAD);
        e.most("section", Edges::full, (x, v) -> x.aspect(v), 7, Edges.full().aspect(7), BAD);
        e.refused("none there", Edges::bare, x -> x.aspect(0), BAD);
    }

    static void p17NoneRightOfIt(Edges e) {
        TrackCircuits x = Check.plain(8);
        e.due("the last, DOWN", x.aspect(7), 0);
        x.force(7, 1);
        e.due("the last, UP", x.aspect(7), 2);
        e.due("the one left of it, DOWN", x.aspect(6), 0);
        x.force(6, 1);
        e.due("both UP", x.aspect(6), 2);
        x.force(7, 0);
        e.due("that right of it DOWN", x.aspect(6), 1);
    }

    // ---- 18 run

    static void p18MomentsAre0To20(Edges e) {
        for (int what = 0; what < 4; what++) {
            int w = what;
            e.least("n", Edges::some, (x, v) -> x.run(v, w), 0,
                what == 0 ? Edges.some().who(0) : what == 3 ? 2 : 0, BAD);
        }
        e.most("n", Edges::some, (x, v) -> x.run(v, 3), 20, 0, BAD);
        e.refused("no sections, 21", Edges::bare, x -> x.run(21, 0), BAD);
        e.refused("no sections, -1", Edges::bare, x -> x.run(-1, 0), BAD);
    }

    static void p18WhatIs0To3(Edges e) {
        e.least("what", Edges::some, (x, v) -> x.run(0, v), 0, Edges.some().who(0), BAD);
        e.most("what", Edges::some, (x, v) -> x.run(0, v), 3, 2, BAD);
    }

    static void p18NoSections(Edges e) {
        TrackCircuits x = Edges.bare();
        for (int what = 0; what < 4; what++) {
            e.dues("none", Check.row(x.run(0, what), x.run(1, what), x.run(20, what)), 0, 0, 0);
        }
    }

    static void p18AllTwentyAreCounted(Edges e) {
        TrackCircuits x = Check.plain(8);
        x.rule(0, 0);
        for (int s = 0; s < 6; s++) {
            x.fault(0, s);
        }
        e.dues("six UNSAFE behind each", Check.row(x.run(0, 1), x.run(1, 1), x.run(2, 1), x.run(19, 1), x.run(20, 1)),
            0, 6, 12, 114, 120);
        x.train(0, 1);
        // the train stands at 0 .. 7 in turn, at 6 and 7 it is one more
        e.dues("and a train", Check.row(x.run(6, 1), x.run(7, 1), x.run(8, 1), x.run(9, 1), x.run(20, 1)),
            36, 43, 50, 56, 122);
        e.dues("where it is", Check.row(x.run(0, 3), x.run(1, 3), x.run(7, 3), x.run(8, 3), x.run(20, 3)),
            1, 2, 128, 0, 0);
    }

    static void p18ChangesAllTogether(Edges e) {
        TrackCircuits x = Check.plain(8);
        e.dues("eight, once", Check.row(x.run(0, 2), x.run(1, 2), x.run(20, 2)), 0, 8, 8);
        x.moment();
        e.dues("none", Check.row(x.run(1, 2), x.run(20, 2)), 0, 0);
        x.train(0, 1);
        // DOWN and UP again at each of the eight
        e.dues("with a train", Check.row(x.run(1, 2), x.run(2, 2), x.run(8, 2), x.run(9, 2), x.run(20, 2)),
            1, 3, 15, 16, 16);
        e.due("as many as settle", longest().run(20, 2), 36);
    }

    static void p18BadGoesAheadOfState(Edges e) {
        e.refused("n", Edges::flapping, x -> x.run(21, 0), BAD);
        e.refused("what", Edges::flapping, x -> x.run(1, 4), BAD);
        for (int what = 0; what < 4; what++) {
            int w = what;
            e.refused("one FLAPS", Edges::flapping, x -> x.run(1, w), STATE);
            e.refused("one of twenty FLAPS", Edges::flapping, x -> x.run(20, w), STATE);
        }
        e.dues("none, so none FLAPS", Check.row(Edges.flapping().run(0, 0), Edges.flapping().run(0, 3)), 3, 1);
    }

    static void p18TheOneThatFlapsIsTheLast(Edges e) {
        e.due("two of three", Check.lateFlapping().run(2, 0), 6);
        e.refused("the third", Check::lateFlapping, x -> x.run(3, 0), STATE);
        e.refused("behind it", Check::lateFlapping, x -> x.run(20, 3), STATE);
    }

    // ---- 19 clears

    static void p19SectionIsOneThatThereIs(Edges e) {
        e.least("section", Edges::some, (x, v) -> x.clears(v), 0, Edges.some().clears(0), BAD);
        e.most("section", Edges::some, (x, v) -> x.clears(v), 2, Edges.some().clears(2), BAD);
        e.refused("none there", Edges::bare, x -> x.clears(0), BAD);
    }

    static void p19OneAtLeast(Edges e) {
        TrackCircuits x = Check.plain(1);
        e.due("goes UP at once", x.clears(0), 1);
        x.force(0, 1);
        e.due("UP already", x.clears(0), 1);
        x.train(0, 1);
        e.due("UP, but DOWN behind it and then", x.clears(0), NONE);
    }

    static void p19ByWaits(Edges e) {
        TrackCircuits x = Check.yard(Check.row(1, 40, 0, 1));
        int[] want = {3, 2, 1, 1};
        for (int i = 0; i < 4; i++) {
            e.due("WAITS " + i, x.clears(0), want[i]);
            x.moment();
        }
    }

    static void p19NoneWithinTwenty(Edges e) {
        TrackCircuits x = Check.yard(Check.row(0, 19, 0, 1), Check.row(0, 20, 0, 1));
        x.train(1, 1);
        e.dues("below PICK; trains stand", Check.row(x.clears(0), x.clears(1)), NONE, NONE);
    }

    static void p19FlapsAheadOfThat(Edges e) {
        TrackCircuits x = Check.lateFlapping();
        e.dues("UP ahead; DOWN till it FLAPS", Check.row(x.clears(1), x.clears(2), x.clears(0), x.clears(3)),
            1, 1, NONE, NONE);
        e.due("the first FLAPS, also for one that is UP", Edges.flapping().clears(1), NONE);
    }

    // ---- 20 order

    static void p20WhatIs0Or1(Edges e) {
        e.least("what", Edges::some, (x, v) -> x.order(v), 0, 1, BAD);
        e.most("what", Edges::some, (x, v) -> x.order(v), 1, Edges.some().order(1), BAD);
        e.refused("BAD goes ahead of STATE", Edges::flapping, x -> x.order(2), BAD);
        e.refused("BAD goes ahead of STATE", Edges::flapping, x -> x.order(-1), BAD);
    }

    static void p20NoneAndOneSection(Edges e) {
        TrackCircuits none = Edges.bare();
        e.dues("no sections", Check.row(none.order(0), none.order(1)), 1, 0);
        TrackCircuits one = Edges.one();
        e.dues("one", Check.row(one.order(0), one.order(1)), 1, 1);
        one.moment();
        e.dues("one that doesn't change", Check.row(one.order(0), one.order(1)), 1, 0);
    }

    static void p20EightFromTheLast(Edges e) {
        TrackCircuits x = new TrackCircuits();
        for (int s = 0; s < 8; s++) {
            x.section(s == 7 ? 0 : 4, 40, 0, 1);
        }
        // BACKS go UP by turns from the last on; asked from the first, each goes UP and half go DOWN again
        e.dues("as one as told", Check.row(x.order(0), x.order(1)), 1, 4);
    }

    static void p20OtherwiseThanAsTold(Edges e) {
        TrackCircuits x = Check.yard(Check.row(5, 40, 0, 1), Check.row(5, 40, 0, 1), Check.row(0, 5, 0, 1));
        x.force(1, 1);
        e.dues("the second falls first", Check.row(x.order(0), x.order(1)), 0, 1);
        e.dues("nothing is kept", Check.row(x.who(0), x.log(NONE)), 2, 0);
    }

    static void p20EitherFlaps(Edges e) {
        e.refused("both", Edges::flapping, x -> x.order(0), STATE);
        e.refused("both", Edges::flapping, x -> x.order(1), STATE);
        for (int what = 0; what < 2; what++) {
            int w = what;
            e.refused("just that from the last", EdgesOfMoments::flapsFromLast, x -> x.order(w), STATE);
            e.refused("just that as told", EdgesOfMoments::flapsAsTold, x -> x.order(w), STATE);
        }
        e.due("as told it doesn't", flapsFromLast().moment(), 3);
        e.due("as told it does", flapsAsTold().moment(), STATE);
    }

    private static TrackCircuits flapsFromLast() {
        TrackCircuits x = Check.yard(Check.row(4, 40, 0, 1), Check.row(5, 40, 0, 1), Check.row(5, 15, 0, 1));
        x.force(2, 1);
        return x;
    }

    private static TrackCircuits flapsAsTold() {
        TrackCircuits x = Check.yard(Check.row(4, 40, 0, 1), Check.row(5, 40, 0, 1), Check.row(3, 15, 0, 1),
            Check.row(0, 40, 0, 1));
        x.force(1, 1);
        x.force(2, 1);
        return x;
    }
}
