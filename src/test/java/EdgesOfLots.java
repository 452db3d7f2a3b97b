/** Boundary cases of promises 26 to 29: faults by lot, what was told. */
final class EdgesOfLots {
    private static final int NONE = Edges.NONE, BAD = Edges.BAD, STATE = Edges.STATE;
    private static final int[] SEEDS = {0, 1, -1, Edges.LEAST, Edges.GREATEST, Edges.LEAST + 1, Edges.GREATEST - 1};

    private EdgesOfLots() {
    }

    /** One SECTION of CURRENT 99 and LEAK 72 under a TRAIN, its FAULTS ahead of any drawn given. */
    private static TrackCircuits single(int... kinds) {
        TrackCircuits x = Check.yard(Check.row(0, 99, 9, 9));
        x.rule(2, 9);
        x.rule(0, 5);
        x.train(0, 1);
        for (int kind : kinds) {
            x.fault(kind, 0);
        }
        return x;
    }

    /** What drawn() of it must be, by longs and by hand. */
    private static int singleByHand(int seed, int n, int... kinds) {
        long z = seed & 0xFFFFFFFFL;
        int current = 99 - 72;
        boolean hasRust = false;
        for (int i = 0; i < kinds.length + n; i++) {
            int kind = i < kinds.length ? kinds[i] : 0;
            if (i >= kinds.length) {
                z = (z * 1103515245L + 12345L) & 0xFFFFFFFFL;
                kind = (int) (z / 512 % 4);
            }
            // a CROSS at the only SECTION has caught nothing
            current = kind == 0 ? 36 : kind == 1 ? current / 2 : current;
            hasRust |= kind == 3;
        }
        return hasRust && current / 4 >= 5 ? 1 : 0;
    }

    /** All eight are UNSAFE, whatever is drawn. */
    private static TrackCircuits eightUnsafe() {
        TrackCircuits x = Check.plain(8);
        x.rule(0, 0);
        for (int s = 0; s < 8; s++) {
            x.train(s, 1);
        }
        return x;
    }

    // ---- 26 drawn

    static void p26FaultsAre0To9(Edges e) {
        e.least("n", EdgesOfLots::eightUnsafe, (x, v) -> x.drawn(3, v), 0, 8, BAD);
        e.most("n", EdgesOfLots::eightUnsafe, (x, v) -> x.drawn(3, v), 9, 8, BAD);
        e.refused("n below 0, with all else", Edges::full, x -> x.drawn(3, -1), BAD);
        e.refused("n above 9, with all else", Edges::full, x -> x.drawn(3, 10), BAD);
    }

    static void p26NoSectionsIsBad(Edges e) {
        e.refused("none by 0", Edges::bare, x -> x.drawn(1, 0), BAD);
        e.refused("none by 9", Edges::bare, x -> x.drawn(1, 9), BAD);
        e.refused("none by 10", Edges::bare, x -> x.drawn(1, 10), BAD);
    }

    static void p26SeedIsAnyInt(Edges e) {
        for (int seed : SEEDS) {
            for (int n = 0; n <= 9; n++) {
                e.due(n + " by " + seed, single().drawn(seed, n), singleByHand(seed, n));
            }
        }
    }

    static void p26AsManyAsToldWhateverThereAre(Edges e) {
        int[] six = {3, 1, 0, 3, 2, 3};
        TrackCircuits x = single(six);
        for (int seed = -30; seed < 30; seed++) {
            for (int n = 0; n <= 9; n += 3) {
                e.due(n + " more than six by " + seed, x.drawn(seed, n), singleByHand(seed, n, six));
            }
        }
        e.due("six stay", x.count(1), 6);
    }

    static void p26SectionAmongEight(Edges e) {
        // the first of each seed truly
        for (int seed = 0; seed < 40; seed++) {
            long z = (seed * 1103515245L + 12345L) & 0xFFFFFFFFL;
            for (int size = 1; size <= 8; size++) {
                TrackCircuits x = Check.plain(size);
                for (int s = 0; s < size; s++) {
                    // just every second one is UNSAFE by a RUST
                    x.set(s, 0, s % 2 == 0 ? 80 : 79);
                    x.train(s, 1);
                }
                int got = x.drawn(seed, 1);
                x.fault((int) (z / 512 % 4), (int) (z / 65536 % size));
                x.moment();
                e.due("one of " + size + " by " + seed, got, Integer.bitCount(x.who(1)));
            }
        }
    }

    static void p26NoneAndEightUnsafeAndFlaps(Edges e) {
        e.due("none", Check.plain(8).drawn(1, 0), 0);
        e.due("eight", eightUnsafe().drawn(1, 0), 8);
        e.due("it FLAPS", Check.flapping().drawn(1, 0), 9);
        e.due("it FLAPS, with all else", Edges.flapping().drawn(Edges.LEAST, 0), 9);
    }

    // ---- 27 chance

    static void p27SeedsAre1To20(Edges e) {
        e.least("m", Edges::some, (x, v) -> x.chance(1, v, 0, 0, 1), 1, 1, BAD);
        e.most("m", Edges::some, (x, v) -> x.chance(1, v, 0, 0, 1), 20, 1, BAD);
    }

    static void p27FaultsAre0To9(Edges e) {
        e.least("n", EdgesOfLots::eightUnsafe, (x, v) -> x.chance(1, 4, v, 8, 0), 0, 1, BAD);
        e.most("n", EdgesOfLots::eightUnsafe, (x, v) -> x.chance(1, 4, v, 8, 0), 9, 1, BAD);
    }

    static void p27ManyAre0To8(Edges e) {
        e.least("k", EdgesOfLots::eightUnsafe, (x, v) -> x.chance(1, 4, 2, v, 0), 0, 1, BAD);
        e.most("k", EdgesOfLots::eightUnsafe, (x, v) -> x.chance(1, 4, 2, v, 0), 8, 1, BAD);
    }

    static void p27PartIs0Or1(Edges e) {
        e.least("part", Edges::some, (x, v) -> x.chance(1, 20, 0, 8, v), 0, 0, BAD);
        e.most("part", Edges::some, (x, v) -> x.chance(1, 20, 0, 8, v), 1, 1, BAD);
    }

    static void p27NoSectionsIsBad(Edges e) {
        e.refused("part 0", Edges::bare, x -> x.chance(1, 1, 0, 0, 0), BAD);
        e.refused("part 1", Edges::bare, x -> x.chance(1, 1, 0, 0, 1), BAD);
    }

    static void p27KOrMore(Edges e) {
        TrackCircuits x = eightUnsafe();
        x.train(0, 0);
        // seven are UNSAFE
        for (int k = 0; k <= 8; k++) {
            e.due("above, by " + k, x.chance(5, 20, 0, k, 0), k <= 7 ? 1 : 0);
            e.due("below, by " + k, x.chance(5, 20, 0, k, 1), 1);
        }
    }

    static void p27FlapsIs9(Edges e) {
        TrackCircuits x = Check.flapping();
        e.dues("8 or more", Check.row(x.chance(1, 20, 0, 8, 0), x.chance(1, 20, 0, 8, 1)), 1, 1);
    }

    static void p27SeedsWrapAround(Edges e) {
        for (int m = 1; m <= 20; m++) {
            int above = 0;
            for (int i = 0; i < m; i++) {
                above += singleByHand(Edges.GREATEST - 9 + i, 4);
            }
            TrackCircuits x = single();
            int a = x.chance(Edges.GREATEST - 9, m, 4, 1, 0);
            int b = x.chance(Edges.GREATEST - 9, m, 4, 1, 1);
            e.due("worth in " + m, a * m, above * b);
            for (int d = 2; d <= 20; d++) {
                e.due("lowest terms in " + m, a % d == 0 && b % d == 0 ? d : 1, 1);
            }
        }
    }

    static void p27NoneIs0By1(Edges e) {
        TrackCircuits x = Check.plain(1);
        for (int m = 1; m <= 20; m++) {
            e.dues("in " + m, Check.row(x.chance(7, m, 0, 1, 0), x.chance(7, m, 0, 1, 1)), 0, 1);
        }
    }

    // ---- 28 tells

    static void p28SheetIs0To3(Edges e) {
        Edges.Start start = EdgesOfLots::fourTold;
        e.least("sheet", start, (x, v) -> x.tells(v, 0, 0), 0, 0, BAD);
        e.most("sheet", start, (x, v) -> x.tells(v, 0, 0), 3, 1, BAD);
    }

    /** SHEETS 0 .. 3 tell a relay that is UP from now on; the first wrong one is 0, NONE, NONE, 1. */
    private static TrackCircuits fourTold() {
        TrackCircuits x = Edges.one();
        Edges.lay(x, 0, 0, 0);
        Edges.lay(x, 1, 1, 1);
        Edges.lay(x, 2, 0);
        Edges.lay(x, 3, 1, 1, 0);
        return x;
    }

    static void p28SectionIsOneThatThereIs(Edges e) {
        e.least("section", Edges::some, (x, v) -> x.tells(2, v, 0), 0, NONE, BAD);
        e.most("section", Edges::some, (x, v) -> x.tells(2, v, 0), 2, NONE, BAD);
        e.refused("none there", Edges::bare, x -> x.tells(2, 0, 0), BAD);
    }

    static void p28WhatIs0Or1(Edges e) {
        e.least("what", Edges::some, (x, v) -> x.tells(2, 0, v), 0, NONE, BAD);
        e.most("what", Edges::some, (x, v) -> x.tells(2, 0, v), 1, 63, BAD);
    }

    static void p28MissingGoesBehindBad(Edges e) {
        e.refused("missing", Edges::some, x -> x.tells(3, 0, 0), Edges.MISSING);
        e.refused("missing", Edges::some, x -> x.tells(3, 0, 1), Edges.MISSING);
        e.refused("section", Edges::some, x -> x.tells(3, 3, 0), BAD);
        e.refused("what", Edges::some, x -> x.tells(3, 0, 2), BAD);
    }

    static void p28TenAtMost(Edges e) {
        for (int sort = 0; sort < 2; sort++) {
            TrackCircuits x = Edges.one();
            x.train(0, 1);
            x.sheet(0, sort, 10);
            // the train leaves behind the first
            e.due("ten", x.tells(0, 0, 0), 1);
            x.sheet(0, sort, 11);
            e.dues("eleven", Check.row(x.tells(0, 0, 0), x.tells(0, 0, 1)), BAD, BAD);
            x.sheet(0, sort, 40);
            e.dues("forty", Check.row(x.tells(0, 0, 0), x.tells(0, 0, 1)), BAD, BAD);
        }
        e.refused("forty", Edges::some, x -> x.tells(1, 0, 0), BAD);
        e.refused("forty", Edges::some, x -> x.tells(1, 2, 1), BAD);
    }

    static void p28TheTenthMayBeTheFirstOtherwise(Edges e) {
        TrackCircuits x = Edges.one();
        Edges.lay(x, 0, 0, 1, 1, 1, 1, 1, 1, 1, 1, 1, 0);
        e.dues("the tenth", Check.row(x.tells(0, 0, 0), x.tells(0, 0, 1)), 9, 0);
        x.put(0, 9, 1);
        e.dues("all ten", Check.row(x.tells(0, 0, 0), x.tells(0, 0, 1)), NONE, 1 + 4 + 16 + 32);
        x.put(0, 0, 0);
        e.due("the first", x.tells(0, 0, 0), 0);
    }

    static void p28ARowThatTellsNone(Edges e) {
        TrackCircuits x = Edges.some();
        e.dues("none", Check.row(x.tells(2, 0, 0), x.tells(2, 0, 1)), NONE, 63);
        TrackCircuits flaps = Edges.flapping();
        e.dues("none, so none FLAPS", Check.row(flaps.tells(2, 0, 0), flaps.tells(2, 0, 1)), NONE, 63);
    }

    static void p28OneThatFlapsIsOtherwise(Edges e) {
        TrackCircuits x = Check.flapping();
        for (int relay = 0; relay < 2; relay++) {
            Edges.lay(x, 0, 0, relay);
            e.due("the first, told " + relay, x.tells(0, 0, 0), 0);
        }
        TrackCircuits late = Check.lateFlapping();
        Edges.lay(late, 0, 1, 1, 1, 1);
        e.due("the third", late.tells(0, 1, 0), 2);
        Edges.lay(late, 0, 1, 1, 1);
        e.due("ahead of it", late.tells(0, 1, 0), NONE);
    }

    static void p28NeitherUpNorDown(Edges e) {
        TrackCircuits x = Check.plain(2);
        x.train(1, 1);
        int[] odd = {2, -1, 256, 65536, 65537, Edges.LEAST, Edges.GREATEST};
        for (int v : odd) {
            Edges.lay(x, 0, 1, v);
            e.dues("of ints " + v, Check.row(x.tells(0, 0, 0), x.tells(0, 1, 0)), 0, 0);
        }
        Edges.lay(x, 0, 0, 65537);
        e.dues("of shorts 65537 is 1", Check.row(x.tells(0, 0, 0), x.tells(0, 1, 0)), NONE, 0);
        Edges.lay(x, 0, 0, Edges.LEAST);
        e.dues("of shorts the least int is 0", Check.row(x.tells(0, 0, 0), x.tells(0, 1, 0)), 0, NONE);
    }

    static void p28NothingIsKept(Edges e) {
        TrackCircuits x = fourTold();
        TrackCircuits y = fourTold();
        for (int what = 0; what < 2; what++) {
            x.tells(3, 0, what);
        }
        e.same("as ahead", Shown.state(x), Shown.state(y));
    }

    // ---- 29 film

    static void p29SheetIs0To3(Edges e) {
        e.least("sheet", Edges::some, (x, v) -> x.film(v, 0, 3), 0, 3, BAD);
        e.most("sheet", Edges::some, (x, v) -> x.film(v, 0, 3), 3, 3, BAD);
    }

    static void p29SectionIsOneThatThereIs(Edges e) {
        e.least("section", Edges::some, (x, v) -> x.film(0, v, 3), 0, 3, BAD);
        e.most("section", Edges::some, (x, v) -> x.film(0, v, 3), 2, 3, BAD);
        e.refused("none there", Edges::bare, x -> x.film(0, 0, 0), BAD);
    }

    static void p29MomentsAre0To10(Edges e) {
        e.least("n", Edges::some, (x, v) -> x.film(1, 0, v), 0, 0, BAD);
        e.most("n", Edges::some, (x, v) -> x.film(1, 0, v), 10, 10, BAD);
    }

    static void p29BecomesARowOfNShorts(Edges e) {
        for (int sheet = 0; sheet < 4; sheet++) {
            for (int n = 0; n <= 10; n += 5) {
                TrackCircuits x = Edges.some();
                e.due("n", x.film(sheet, 1, n), n);
                e.due("its size", Shown.sizeOf(x, sheet), n);
                e.dues("its sort", Check.row(x.load(sheet, 0, 0, 0), x.load(sheet, 1, 0, 0)), 0, Edges.UNLIKE);
                e.due("as it is told", x.tells(sheet, 1, 0), NONE);
            }
        }
    }

    static void p29TheTenthToo(Edges e) {
        TrackCircuits x = Check.plain(8);
        x.train(0, 1);
        x.film(0, 7, 10);
        // DOWN behind the eighth alone
        Edges.lay(x, 1, 0, 1, 1, 1, 1, 1, 1, 1, 0, 1, 1);
        e.due("by hand", x.tells(1, 7, 0), NONE);
        e.due("filmed", x.tells(0, 7, 0), NONE);
        x.put(0, 9, 0);
        e.due("the tenth was 1", x.tells(0, 7, 0), 9);
    }

    static void p29StateLeavesTheSheet(Edges e) {
        for (int sheet = 0; sheet < 4; sheet++) {
            int s = sheet;
            e.refused("sheet " + sheet, Edges::flapping, x -> x.film(s, 0, 1), STATE);
            e.refused("sheet " + sheet, Edges::flapping, x -> x.film(s, 0, 10), STATE);
        }
        TrackCircuits x = Edges.flapping();
        e.due("none, so none FLAPS", x.film(3, 0, 0), 0);
        e.due("an empty row", x.put(3, 0, 0), Edges.OUTSIDE);
    }

    static void p29BadGoesAheadOfState(Edges e) {
        e.refused("sheet", Edges::flapping, x -> x.film(4, 0, 1), BAD);
        e.refused("section", Edges::flapping, x -> x.film(0, 3, 1), BAD);
        e.refused("n", Edges::flapping, x -> x.film(0, 0, 11), BAD);
    }

    static void p29TheThirdFlaps(Edges e) {
        TrackCircuits x = Check.lateFlapping();
        e.dues("two, three", Check.row(x.film(0, 1, 2), x.film(0, 1, 3)), 2, STATE);
        e.due("of two still", Shown.sizeOf(x, 0), 2);
    }
}
