/** Boundary cases of promises 1 to 10: sections, rules, trains, forced relays. */
final class EdgesOfSections {
    private static final int NONE = Edges.NONE, BAD = Edges.BAD, STATE = Edges.STATE, FULL = Edges.FULL;

    private EdgesOfSections() {
    }

    // ---- 1 A new object

    static void p01NoSections(Edges e) {
        TrackCircuits x = new TrackCircuits();
        e.dues("count", Edges.countAll(x), 0, 0, 0, 0, 0);
        e.dues("who", Edges.whoAll(x), 0, 0, 0, 0, 0);
        for (int what = 0; what < 9; what++) {
            e.due("of", x.of(0, what), BAD);
        }
        e.dues("calls of a section", Check.row(x.taken(0, 0), x.set(0, 0, 1), x.train(0, 1), x.force(0, 1),
            x.fault(0, 0), x.mend(0), x.aspect(0), x.clears(0), x.seen(0)),
            BAD, BAD, BAD, BAD, BAD, BAD, BAD, BAD, BAD);
        e.due("drop", x.drop(), STATE);
        e.due("moves", x.moves(), 0);
    }

    static void p01NoFaultsNoMomentsNoImage(Edges e) {
        TrackCircuits x = new TrackCircuits();
        e.due("faultOf", x.faultOf(0, 0), BAD);
        e.due("log, how many", x.log(NONE), 0);
        e.due("log, the first", x.log(0), NONE);
        e.due("fix", x.fix(), NONE);
        e.due("back", x.back(), STATE);
        e.due("the first section's number", x.section(0, 1, 0, 1), 0);
    }

    static void p01TapeIsEmptySheetsAreMissing(Edges e) {
        TrackCircuits x = new TrackCircuits();
        e.due("tape", x.count(2), 0);
        e.due("text", x.text(), -100);
        for (int sheet = 0; sheet < 4; sheet++) {
            e.due("sheet " + sheet, x.put(sheet, 0, 0), Edges.MISSING);
        }
    }

    static void p01RulesAtFirst(Edges e) {
        TrackCircuits x = new TrackCircuits();
        e.dues("rules", Check.row(x.rule(0, 0), x.rule(1, 0), x.rule(2, 0)), 20, 10, 1);
    }

    static void p01ObjectsShareNothing(Edges e) {
        TrackCircuits x = Edges.full();
        e.due("the other has eight", x.count(0), 8);
        e.same("a new one beside it", Shown.state(new TrackCircuits()), Shown.state(Edges.none()));
        TrackCircuits y = new TrackCircuits();
        e.dues("none", Edges.countAll(y), 0, 0, 0, 0, 0);
        e.due("no image", y.back(), STATE);
        e.due("no sheet", y.put(0, 0, 0), Edges.MISSING);
    }

    // ---- 2 section

    static void p02KindIs0To5(Edges e) {
        e.least("kind", Edges::some, (x, v) -> x.section(v, 40, 0, 1), 0, 3, BAD);
        e.most("kind", Edges::some, (x, v) -> x.section(v, 40, 0, 1), 5, 3, BAD);
    }

    static void p02FeedIs1To99(Edges e) {
        e.least("feed", Edges::some, (x, v) -> x.section(0, v, 0, 1), 1, 3, BAD);
        e.most("feed", Edges::some, (x, v) -> x.section(0, v, 0, 1), 99, 3, BAD);
    }

    static void p02LossIs0To9(Edges e) {
        e.least("loss", Edges::some, (x, v) -> x.section(0, 40, v, 1), 0, 3, BAD);
        e.most("loss", Edges::some, (x, v) -> x.section(0, 40, v, 1), 9, 3, BAD);
    }

    static void p02LengthIs1To9(Edges e) {
        e.least("length", Edges::some, (x, v) -> x.section(0, 40, 0, v), 1, 3, BAD);
        e.most("length", Edges::some, (x, v) -> x.section(0, 40, 0, v), 9, 3, BAD);
    }

    static void p02TheEndsStandAsGiven(Edges e) {
        TrackCircuits x = new TrackCircuits();
        x.section(0, 1, 0, 1);
        x.section(5, 99, 9, 9);
        e.dues("least", Check.row(x.of(0, 3), x.of(0, 0), x.of(0, 1), x.of(0, 2)), 0, 1, 0, 1);
        e.dues("most", Check.row(x.of(1, 3), x.of(1, 0), x.of(1, 1), x.of(1, 2)), 5, 99, 9, 9);
    }

    static void p02EightAtMost(Edges e) {
        TrackCircuits x = new TrackCircuits();
        for (int s = 0; s < 8; s++) {
            e.due("its number", x.section(0, 10 + s, 0, 1), s);
            e.due("how many", x.count(0), s + 1);
        }
        e.due("a ninth", x.section(0, 40, 0, 1), FULL);
        e.due("still eight", x.count(0), 8);
        e.refused("a ninth", Edges::full, y -> y.section(0, 40, 0, 1), FULL);
        e.due("room again behind a drop", x.drop(), 7);
        e.due("the eighth", x.section(0, 40, 0, 1), 7);
        e.due("full again", x.section(0, 40, 0, 1), FULL);
    }

    static void p02BadGoesAheadOfFull(Edges e) {
        e.refused("kind", Edges::full, x -> x.section(6, 40, 0, 1), BAD);
        e.refused("feed", Edges::full, x -> x.section(0, 0, 0, 1), BAD);
        e.refused("loss", Edges::full, x -> x.section(0, 40, 10, 1), BAD);
        e.refused("length", Edges::full, x -> x.section(0, 40, 0, 0), BAD);
    }

    static void p02DownWithoutWaitsTrainFaultsAtFirst(Edges e) {
        TrackCircuits x = Check.plain(8);
        x.moment();
        x.moment();
        x.train(7, 1);
        x.fault(0, 7);
        x.drop();
        x.section(0, 50, 0, 1);
        e.dues("DOWN, WAITS 0", Check.row(x.of(7, 6), x.of(7, 7)), 0, 0);
        e.dues("who", Edges.whoAll(x), 127, 0, 128, 0, 0);
        e.due("no faults", x.count(1), 0);
        e.due("WAITS of others stay", x.of(6, 7), 2);
    }

    static void p02LaidBackAndComeAnew(Edges e) {
        TrackCircuits x = new TrackCircuits();
        x.image();
        x.section(0, 50, 0, 1);
        x.moment();
        x.train(0, 1);
        x.back();
        e.due("its number", x.section(0, 50, 0, 1), 0);
        e.dues("DOWN, WAITS 0", Check.row(x.of(0, 6), x.of(0, 7), x.who(3)), 0, 0, 0);
    }

    // ---- 3 drop

    static void p03NoneIsState(Edges e) {
        e.refused("none", Edges::none, TrackCircuits::drop, STATE);
        e.refused("none, but sheets and a tape", Edges::bare, TrackCircuits::drop, STATE);
    }

    static void p03DownToNone(Edges e) {
        TrackCircuits x = Edges.full();
        for (int left = 7; left >= 0; left--) {
            e.due("how many", x.drop(), left);
            e.due("count", x.count(0), left);
            e.due("it is none any more", x.of(left, 0), BAD);
        }
        e.due("none", x.drop(), STATE);
        e.dues("nothing is left", Edges.countAll(x), 0, 0, 60, 0, 0);
        e.dues("nobody", Edges.whoAll(x), 0, 0, 0, 0, 0);
    }

    static void p03ItsFaultsGoThoseBehindAreOneLess(Edges e) {
        TrackCircuits x = Check.plain(2);
        int[] places = {1, 0, 1, 1, 0, 1};
        for (int i = 0; i < 6; i++) {
            x.fault(i % 4, places[i]);
        }
        x.drop();
        e.due("two stay", x.count(1), 2);
        e.dues("kinds, as they came", Check.row(x.faultOf(0, 0), x.faultOf(1, 0), x.faultOf(2, 0)), 1, 0, BAD);
        x.drop();
        e.due("none stays", x.count(1), 0);
    }

    static void p03AllSixFaultsGo(Edges e) {
        TrackCircuits x = Check.plain(1);
        for (int i = 0; i < 6; i++) {
            x.fault(3, 0);
        }
        e.due("none", x.drop(), 0);
        e.due("no faults", x.count(1), 0);
        x.section(0, 50, 0, 1);
        e.due("room for faults again", x.fault(3, 0), 1);
    }

    static void p03WhatALeftCrossCaughtStays(Edges e) {
        TrackCircuits x = Check.plain(2);
        x.fault(2, 0);
        x.drop();
        e.due("caught", x.faultOf(0, 2), 25);
        e.due("current", x.of(0, 5), 75);
    }

    static void p03OnlyItsTrainGoes(Edges e) {
        TrackCircuits x = Check.plain(3);
        x.train(0, 1);
        x.train(2, 1);
        x.drop();
        e.due("the other stays", x.who(3), 1);
        x.drop();
        e.due("one that has none", x.who(3), 1);
        x.drop();
        e.due("gone", x.count(3), 0);
    }

    static void p03TheOneLeftOfItIsTheLastThen(Edges e) {
        TrackCircuits x = Check.plain(2);
        x.force(0, 1);
        e.due("right of it DOWN", x.aspect(0), 1);
        x.drop();
        e.due("none right of it", x.aspect(0), 2);
        x.train(0, 1);
        e.due("its train moves away", x.moves(), 0);
    }

    // ---- 4 set

    static void p04SectionIsOneThatThereIs(Edges e) {
        e.least("section", Edges::some, (x, v) -> x.set(v, 0, 7), 0, 40, BAD);
        e.most("section", Edges::some, (x, v) -> x.set(v, 0, 7), 2, 55, BAD);
        e.most("section", Edges::full, (x, v) -> x.set(v, 0, 7), 7, 93, BAD);
        e.refused("none there", Edges::bare, x -> x.set(0, 0, 7), BAD);
    }

    static void p04WhatIs0To3(Edges e) {
        e.least("what", Edges::some, (x, v) -> x.set(0, v, 5), 0, 40, BAD);
        e.most("what", Edges::some, (x, v) -> x.set(0, v, 5), 3, 0, BAD);
    }

    static void p04FeedIs1To99(Edges e) {
        e.least("feed", Edges::some, (x, v) -> x.set(2, 0, v), 1, 55, BAD);
        e.most("feed", Edges::some, (x, v) -> x.set(2, 0, v), 99, 55, BAD);
    }

    static void p04LossIs0To9(Edges e) {
        e.least("loss", Edges::some, (x, v) -> x.set(2, 1, v), 0, 3, BAD);
        e.most("loss", Edges::some, (x, v) -> x.set(2, 1, v), 9, 3, BAD);
    }

    static void p04LengthIs1To9(Edges e) {
        e.least("length", Edges::some, (x, v) -> x.set(2, 2, v), 1, 4, BAD);
        e.most("length", Edges::some, (x, v) -> x.set(2, 2, v), 9, 4, BAD);
    }

    static void p04KindIs0To5(Edges e) {
        e.least("kind", Edges::some, (x, v) -> x.set(2, 3, v), 0, 1, BAD);
        e.most("kind", Edges::some, (x, v) -> x.set(2, 3, v), 5, 1, BAD);
    }

    static void p04TheEndsStandAsSet(Edges e) {
        int[][] ends = {{1, 99}, {0, 9}, {1, 9}, {0, 5}};
        TrackCircuits x = Edges.some();
        for (int what = 0; what < 4; what++) {
            int was = x.of(2, what);
            e.due("what it was", x.set(2, what, ends[what][0]), was);
            e.due("least", x.of(2, what), ends[what][0]);
            e.due("what it was", x.set(2, what, ends[what][1]), ends[what][0]);
            e.due("most", x.of(2, what), ends[what][1]);
            e.due("the same again", x.set(2, what, ends[what][1]), ends[what][1]);
        }
    }

    static void p04RelayAndWaitsStay(Edges e) {
        TrackCircuits x = Check.plain(1);
        for (int i = 0; i < 4; i++) {
            x.moment();
        }
        for (int kind = 5; kind >= 0; kind--) {
            x.set(0, 3, kind);
            e.dues("UP, WAITS 3", Check.row(x.of(0, 6), x.of(0, 7)), 1, 3);
        }
        x.set(0, 0, 1);
        e.dues("UP, WAITS 3 by the least feed", Check.row(x.of(0, 6), x.of(0, 7)), 1, 3);
    }

    // ---- 5 of

    static void p05SectionIsOneThatThereIs(Edges e) {
        e.least("section", Edges::some, (x, v) -> x.of(v, 0), 0, 40, BAD);
        e.most("section", Edges::some, (x, v) -> x.of(v, 0), 2, 55, BAD);
        e.most("section", Edges::full, (x, v) -> x.of(v, 0), 7, 93, BAD);
        e.refused("none there", Edges::bare, x -> x.of(0, 0), BAD);
    }

    static void p05WhatIs0To8(Edges e) {
        e.least("what", Edges::some, (x, v) -> x.of(1, v), 0, 30, BAD);
        e.most("what", Edges::some, (x, v) -> x.of(1, v), 8, 1, BAD);
    }

    private static int leak(int loss, int length, int weather) {
        TrackCircuits x = Check.yard(Check.row(0, 99, loss, length));
        x.rule(2, weather);
        return x.of(0, 4);
    }

    static void p05LeakIsCut(Edges e) {
        e.due("9 by 10", leak(9, 1, 1), 0);
        e.due("10 by 10", leak(5, 2, 1), 1);
        e.due("18 by 10", leak(9, 2, 1), 1);
        e.due("20 by 10", leak(4, 5, 1), 2);
        e.due("no loss", leak(0, 9, 9), 0);
        e.due("no weather", leak(9, 9, 0), 0);
        e.due("the greatest, 729 by 10", leak(9, 9, 9), 72);
    }

    private static int current(int feed, int loss, int length, int weather) {
        TrackCircuits x = Check.yard(Check.row(0, feed, loss, length));
        x.rule(2, weather);
        return x.of(0, 5);
    }

    static void p05CurrentIs0AtLeast(Edges e) {
        e.due("one more than the leak", current(73, 9, 9, 9), 1);
        e.due("as much as the leak", current(72, 9, 9, 9), 0);
        e.due("one less than the leak", current(71, 9, 9, 9), 0);
        e.due("the least feed", current(1, 9, 9, 9), 0);
        e.due("the greatest", current(99, 0, 1, 9), 99);
    }

    private static int rusty(int feed) {
        TrackCircuits x = Check.yard(Check.row(0, feed, 0, 1));
        x.fault(3, 0);
        x.train(0, 1);
        return x.of(0, 5);
    }

    static void p05QuarterIsCut(Edges e) {
        e.dues("of 1, 3, 4, 7, 8, 99", Check.row(rusty(1), rusty(3), rusty(4), rusty(7), rusty(8), rusty(99)),
            0, 0, 1, 1, 2, 24);
    }

    static void p05TrainWithoutRustIs0(Edges e) {
        TrackCircuits x = Check.yard(Check.row(0, 99, 0, 1), Check.row(0, 99, 0, 1));
        x.fault(3, 1);
        x.fault(2, 0);
        x.train(0, 1);
        e.due("rust beside it doesn't count", x.of(0, 5), 0);
        e.due("rust without a train is nothing", x.of(1, 5), 99);
    }

    static void p05WaitsAre3AtMost(Edges e) {
        TrackCircuits x = Check.plain(1);
        int[] want = {1, 2, 3, 3, 3};
        e.due("at first", x.of(0, 7), 0);
        for (int i = 0; i < 5; i++) {
            x.moment();
            e.due("behind " + (i + 1), x.of(0, 7), want[i]);
        }
    }

    static void p05LooksOfEachKind(Edges e) {
        int[] looks = {0, 0, 1, 2, 2, 3};
        TrackCircuits x = Check.plain(1);
        for (int kind = 0; kind < 6; kind++) {
            x.set(0, 3, kind);
            e.due("kind " + kind, x.of(0, 8), looks[kind]);
        }
    }

    // ---- 6 taken

    static void p06SectionIsOneThatThereIs(Edges e) {
        e.least("section", Edges::some, (x, v) -> x.taken(v, 0), 0, 40, BAD);
        e.most("section", Edges::some, (x, v) -> x.taken(v, 0), 2, 55, BAD);
        e.refused("none there", Edges::bare, x -> x.taken(0, 0), BAD);
    }

    static void p06KindIs0To5(Edges e) {
        // the sixth of the full yard is a GUARD
        e.least("k", Edges::full, (x, v) -> x.taken(5, v), 0, 75, BAD);
        e.most("k", Edges::full, (x, v) -> x.taken(5, v), 5, 75, BAD);
    }

    static void p06OthersAreOfAnotherKind(Edges e) {
        String[] lines = {"0", "01", "02", "013", "04", "025"};
        for (int s = 0; s < 6; s++) {
            for (int k = 0; k < 6; k++) {
                int section = s;
                int kind = k;
                if (lines[s].indexOf('0' + k) >= 0) {
                    e.due(s + " for " + k, Edges.full().taken(s, k), 30 + 9 * s);
                } else {
                    e.refused(s + " for " + k, Edges::full, x -> x.taken(section, kind), Edges.UNLIKE);
                }
            }
        }
    }

    // ---- 7 rule

    static void p07RuleIs0To2(Edges e) {
        e.least("rule", Edges::some, (x, v) -> x.rule(v, 5), 0, 22, BAD);
        e.most("rule", Edges::some, (x, v) -> x.rule(v, 5), 2, 3, BAD);
    }

    static void p07PickIs0To99(Edges e) {
        e.least("PICK", Edges::some, (x, v) -> x.rule(0, v), 0, 22, BAD);
        e.most("PICK", Edges::some, (x, v) -> x.rule(0, v), 99, 22, BAD);
    }

    static void p07HoldIs0To99(Edges e) {
        e.least("HOLD", Edges::some, (x, v) -> x.rule(1, v), 0, 11, BAD);
        e.most("HOLD", Edges::some, (x, v) -> x.rule(1, v), 99, 11, BAD);
    }

    static void p07WeatherIs0To9(Edges e) {
        e.least("WEATHER", Edges::some, (x, v) -> x.rule(2, v), 0, 3, BAD);
        e.most("WEATHER", Edges::some, (x, v) -> x.rule(2, v), 9, 3, BAD);
    }

    static void p07EachRuleForItself(Edges e) {
        TrackCircuits x = new TrackCircuits();
        int[] ends = {99, 98, 9};
        for (int rule = 0; rule < 3; rule++) {
            x.rule(rule, ends[rule]);
        }
        e.dues("most", Check.row(x.rule(0, 0), x.rule(1, 0), x.rule(2, 0)), 99, 98, 9);
        e.dues("least", Check.row(x.rule(0, 1), x.rule(1, 1), x.rule(2, 1)), 0, 0, 0);
    }

    // ---- 8 train

    static void p08SectionIsOneThatThereIs(Edges e) {
        e.least("section", Edges::some, (x, v) -> x.train(v, 1), 0, 0, BAD);
        e.most("section", Edges::some, (x, v) -> x.train(v, 1), 2, 0, BAD);
        e.most("section", Edges::full, (x, v) -> x.train(v, 0), 7, 0, BAD);
        e.refused("none there", Edges::bare, x -> x.train(0, 1), BAD);
    }

    static void p08IsIs0Or1(Edges e) {
        e.least("is", Edges::some, (x, v) -> x.train(1, v), 0, 1, BAD);
        e.most("is", Edges::some, (x, v) -> x.train(1, v), 1, 1, BAD);
    }

    static void p08NoneOneAndEight(Edges e) {
        TrackCircuits x = Check.plain(8);
        e.due("none", x.who(3), 0);
        for (int s = 0; s < 8; s++) {
            e.due("none did", x.train(s, 1), 0);
            e.due("how many", x.count(3), s + 1);
            e.due("one did", x.train(s, 1), 1);
            e.due("it is one still", x.count(3), s + 1);
        }
        e.due("all", x.who(3), 255);
        for (int s = 0; s < 8; s++) {
            e.due("one did", x.train(s, 0), 1);
            e.due("none did", x.train(s, 0), 0);
        }
        e.due("none", x.who(3), 0);
    }

    // ---- 9 moves

    static void p09WithoutSectionsOrTrains(Edges e) {
        e.due("no sections", new TrackCircuits().moves(), 0);
        e.due("no trains", Check.plain(8).moves(), 0);
    }

    static void p09ThatOnTheLastIsGone(Edges e) {
        TrackCircuits x = Check.plain(1);
        x.train(0, 1);
        e.due("the only section", x.moves(), 0);
        e.due("none", x.count(3), 0);
        x.section(0, 50, 0, 1);
        e.due("one that comes later has none", x.who(3), 0);
    }

    static void p09EightAllAtOnce(Edges e) {
        TrackCircuits x = Check.plain(8);
        for (int s = 0; s < 8; s++) {
            x.train(s, 1);
        }
        int[] want = {254, 252, 248, 240, 224, 192, 128, 0, 0};
        for (int i = 0; i < 9; i++) {
            e.due("behind " + (i + 1), x.moves(), want[i]);
            e.due("truly", x.who(3), want[i]);
        }
    }

    // ---- 10 force

    static void p10SectionIsOneThatThereIs(Edges e) {
        e.least("section", Edges::some, (x, v) -> x.force(v, 1), 0, Edges.some().of(0, 6), BAD);
        e.most("section", Edges::some, (x, v) -> x.force(v, 1), 2, Edges.some().of(2, 6), BAD);
        e.most("section", Edges::full, (x, v) -> x.force(v, 0), 7, Edges.full().of(7, 6), BAD);
        e.refused("none there", Edges::bare, x -> x.force(0, 1), BAD);
    }

    static void p10IsIs0Or1(Edges e) {
        e.least("is", Edges::some, (x, v) -> x.force(0, v), 0, Edges.some().of(0, 6), BAD);
        e.most("is", Edges::some, (x, v) -> x.force(0, v), 1, Edges.some().of(0, 6), BAD);
    }

    static void p10WaitsFrom3To0(Edges e) {
        TrackCircuits x = Check.plain(8);
        for (int i = 0; i < 3; i++) {
            x.moment();
        }
        for (int s = 0; s < 8; s += 7) {
            e.due("UP", x.force(s, 1), 1);
            e.dues("UP, WAITS 0", Check.row(x.of(s, 6), x.of(s, 7)), 1, 0);
            e.due("DOWN", x.force(s, 0), 1);
            e.due("DOWN again", x.force(s, 0), 0);
        }
        e.due("others stay", x.who(0), 126);
        e.due("others' WAITS stay", x.of(6, 7), 3);
        e.due("what the latest moment changed stays", x.log(NONE), 0);
    }
}
