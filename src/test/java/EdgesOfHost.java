/** Boundary cases of promises 32 to 38: the image, loading, counting, sheets. */
final class EdgesOfHost {
    private static final int NONE = Edges.NONE, BAD = Edges.BAD, STATE = Edges.STATE;
    private static final int MISSING = Edges.MISSING, OUTSIDE = Edges.OUTSIDE, UNLIKE = Edges.UNLIKE;
    private static final int LEAST = Edges.LEAST, GREATEST = Edges.GREATEST;

    private EdgesOfHost() {
    }

    // ---- 32 image

    static void p32NoneOneAndEight(Edges e) {
        e.due("none", Edges.bare().image(), 0);
        e.due("one", Edges.one().image(), 1);
        e.due("eight", Edges.full().image(), 8);
    }

    static void p32ChangesNothingElse(Edges e) {
        TrackCircuits x = Edges.full();
        x.image();
        TrackCircuits y = Edges.full();
        e.dues("who", Edges.whoAll(x), Edges.whoAll(y));
        e.dues("count", Edges.countAll(x), Edges.countAll(y));
    }

    static void p32TheLatestTakesItsPlace(Edges e) {
        TrackCircuits x = Check.plain(8);
        x.image();
        for (int i = 0; i < 8; i++) {
            x.drop();
        }
        e.due("none", x.image(), 0);
        x.section(0, 50, 0, 1);
        e.due("back to none", x.back(), 0);
        e.due("none", x.count(0), 0);
    }

    // ---- 33 back

    static void p33ThereIsNone(Edges e) {
        e.refused("none", Edges::none, TrackCircuits::back, STATE);
        e.refused("none, with sheets and a tape", Edges::bare, TrackCircuits::back, STATE);
        e.refused("none, with sections", () -> Check.plain(8), TrackCircuits::back, STATE);
    }

    static void p33FromNoneToEightAndBack(Edges e) {
        TrackCircuits x = new TrackCircuits();
        x.image();
        for (int s = 0; s < 8; s++) {
            x.section(5, 99, 9, 9);
            x.train(s, 1);
            x.force(s, 1);
        }
        for (int i = 0; i < 6; i++) {
            x.fault(2, i);
        }
        x.rule(0, 99);
        x.rule(1, 99);
        x.rule(2, 9);
        e.due("to none", x.back(), 0);
        e.dues("count", Edges.countAll(x), 0, 0, 0, 0, 0);
        e.dues("who", Edges.whoAll(x), 0, 0, 0, 0, 0);
        e.dues("rules", Check.row(x.rule(0, 20), x.rule(1, 10), x.rule(2, 1)), 20, 10, 1);
        e.due("again", x.back(), 0);
    }

    static void p33AsManyAsThereMayBe(Edges e) {
        TrackCircuits x = Edges.full();
        x.image();
        TrackCircuits y = Edges.full();
        y.image();
        while (x.drop() > 0) {
            x.moves();
        }
        e.due("eight", x.back(), 8);
        e.same("all", Shown.state(x), Shown.state(y));
    }

    static void p33LogTapeAndSheetsStay(Edges e) {
        TrackCircuits x = Check.plain(2);
        x.image();
        x.moment();
        Check.feedAll(x, "drop");
        x.sheet(0, 1, 3);
        e.due("two", x.back(), 2);
        e.dues("log", Check.row(x.log(NONE), x.log(0), x.log(1), x.log(2)), 2, 1, 11, NONE);
        e.due("relays are as in the image", x.who(0), 0);
        e.dues("tape and sheet", Check.row(x.count(2), Shown.sizeOf(x, 0)), 4, 3);
        e.due("text", x.text(), 1);
    }

    static void p33WhatItKeepsIsNoneOfWhatCameLater(Edges e) {
        TrackCircuits x = Check.plain(2);
        x.fault(2, 0);
        x.image();
        x.set(0, 0, 99);
        x.mend(0);
        x.fault(1, 1);
        x.back();
        e.dues("of 0", Check.row(x.of(0, 0), x.count(1), x.faultOf(0, 0), x.faultOf(0, 2)), 50, 1, 2, 25);
        x.set(0, 0, 1);
        x.back();
        e.due("nor of what came behind back", x.of(0, 0), 50);
    }

    // ---- 34 load

    static void p34SheetIs0To3(Edges e) {
        e.least("sheet", Edges::some, (x, v) -> x.load(v, 0, 0, 2), 0, 2, BAD);
        e.most("sheet", Edges::some, (x, v) -> x.load(v, 0, 0, 2), 3, MISSING, BAD);
    }

    static void p34SortIs0Or1(Edges e) {
        e.least("sort", Edges::some, (x, v) -> x.load(0, v, 0, 2), 0, 2, BAD);
        e.most("sort", Edges::some, (x, v) -> x.load(1, v, 0, 2), 1, 2, BAD);
    }

    static void p34ManyAre0To8(Edges e) {
        e.least("n", Edges::bare, (x, v) -> x.load(1, 1, 0, v), 0, 0, BAD);
        e.most("n", Edges::bare, (x, v) -> x.load(1, 1, 0, v), 8, 8, BAD);
    }

    static void p34BadGoesAheadOfTheOthers(Edges e) {
        e.refused("sort of a missing one", Edges::some, x -> x.load(3, 2, 0, 1), BAD);
        e.refused("n of a missing one", Edges::some, x -> x.load(3, 0, 0, 9), BAD);
        e.refused("n of another sort", Edges::some, x -> x.load(0, 1, 0, -1), BAD);
        e.refused("n outside", Edges::some, x -> x.load(0, 0, 99, 9), BAD);
    }

    static void p34MissingOfWhateverSort(Edges e) {
        for (int sort = 0; sort < 2; sort++) {
            int s = sort;
            e.refused("n 0", Edges::some, x -> x.load(3, s, 0, 0), MISSING);
            e.refused("n 8", Edges::some, x -> x.load(3, s, 0, 8), MISSING);
            e.refused("outside", Edges::some, x -> x.load(3, s, -1, 1), MISSING);
        }
    }

    static void p34OfAnotherSort(Edges e) {
        e.refused("shorts for ints, n 0", Edges::some, x -> x.load(0, 1, 0, 0), UNLIKE);
        e.refused("ints for shorts, n 0", Edges::some, x -> x.load(1, 0, 0, 0), UNLIKE);
        e.refused("shorts for ints", Edges::some, x -> x.load(0, 1, 0, 2), UNLIKE);
        e.refused("ahead of a place outside", Edges::some, x -> x.load(0, 1, -1, 2), UNLIKE);
        e.refused("an empty row", Edges::some, x -> x.load(2, 1, 0, 0), UNLIKE);
    }

    static void p34NoneFromAnywhere(Edges e) {
        int[] from = {0, 8, 9, -1, LEAST, GREATEST};
        for (int f : from) {
            e.due("from " + f, Edges.some().load(0, 0, f, 0), 0);
        }
        e.due("an empty row", Edges.some().load(2, 0, 0, 0), 0);
    }

    static void p34PlacesOutside(Edges e) {
        e.due("the last four", Edges.some().load(0, 0, 4, 1), 1);
        int[] from = {5, 6, 7, 8, 9, -1, -4, LEAST, LEAST + 3, GREATEST, GREATEST - 3, GREATEST - 30};
        for (int f : from) {
            e.refused("one from " + f, Edges::some, x -> x.load(0, 0, f, 1), OUTSIDE);
        }
        e.refused("eight from the greatest int", Edges::bare, x -> x.load(1, 1, GREATEST, 8), OUTSIDE);
        e.refused("eight from the least int", Edges::bare, x -> x.load(1, 1, LEAST, 8), OUTSIDE);
        e.refused("eight from one less than 0", Edges::bare, x -> x.load(1, 1, -1, 8), OUTSIDE);
        e.refused("an empty row", Edges::bare, x -> x.load(2, 0, 0, 1), OUTSIDE);
    }

    static void p34WhatStoodAheadCame(Edges e) {
        TrackCircuits x = Edges.bare();
        e.due("three of two", x.load(0, 0, 0, 3), OUTSIDE);
        e.dues("two came", Check.row(x.count(0), x.of(0, 0), x.of(1, 0)), 2, 40, 50);
        e.due("eight of two, from the second on", x.load(0, 0, 4, 8), OUTSIDE);
        e.dues("one came", Check.row(x.count(0), x.of(2, 0)), 3, 50);
        TrackCircuits y = Edges.bare();
        y.sheet(3, 0, 7);
        y.copy(0, 0, 3, 0, 7);
        e.due("one and three numbers", y.load(3, 0, 0, 2), OUTSIDE);
        e.due("one came", y.count(0), 1);
        TrackCircuits z = Edges.bare();
        e.due("forty from the seventh on", z.load(1, 1, 24, 5), OUTSIDE);
        e.due("four came", z.count(0), 4);
    }

    static void p34OthersAreLeftOut(Edges e) {
        int[][] rows = {{-1, 40, 0, 1}, {6, 40, 0, 1}, {0, 0, 0, 1}, {0, 100, 0, 1}, {0, 40, -1, 1}, {0, 40, 10, 1},
            {0, 40, 0, 0}, {0, 40, 0, 10}, {0, LEAST, 0, 1}, {0, GREATEST, 0, 1}, {65536, 40, 0, 1}};
        for (int[] row : rows) {
            TrackCircuits x = Edges.bare();
            Edges.lay(x, 3, 1, 0, 1, 0, 1, row[0], row[1], row[2], row[3], 5, 99, 9, 9);
            e.due("two of three", x.load(3, 1, 0, 3), 2);
            e.dues("the first and the last", Check.row(x.count(0), x.of(0, 0), x.of(1, 0)), 2, 1, 99);
        }
    }

    static void p34AsManyAsHaveRoom(Edges e) {
        TrackCircuits x = Edges.some();
        e.due("five of eight", x.load(1, 1, 0, 8), 5);
        e.due("eight", x.count(0), 8);
        e.due("none of eight", x.load(1, 1, 0, 8), 0);
        TrackCircuits full = Edges.full();
        e.due("none", full.load(0, 0, 0, 2), 0);
        e.refused("a place outside, also when full", Edges::full, y -> y.load(0, 0, 0, 3), OUTSIDE);
    }

    // ---- 35 count

    static void p35WhatIs0To4(Edges e) {
        e.least("what", Edges::full, (x, v) -> x.count(v), 0, 8, BAD);
        e.most("what", Edges::full, (x, v) -> x.count(v), 4, Edges.full().count(4), BAD);
    }

    static void p35NoneOneAndAll(Edges e) {
        e.dues("none", Edges.countAll(new TrackCircuits()), 0, 0, 0, 0, 0);
        TrackCircuits one = Edges.one();
        one.fault(3, 0);
        one.feed(1, 0, 0, 0, 0, 0);
        e.dues("one of each, no train", Edges.countAll(one), 1, 1, 1, 0, 40);
        one.train(0, 1);
        e.dues("one of each", Edges.countAll(one), 1, 1, 1, 1, 10);
        TrackCircuits x = new TrackCircuits();
        for (int s = 0; s < 8; s++) {
            x.section(0, 99, 0, 1);
        }
        e.due("eight times 99", x.count(4), 792);
        for (int i = 0; i < 6; i++) {
            x.fault(2, i);
        }
        e.due("the most", x.count(4), 792 + 6 * 49);
        for (int s = 0; s < 8; s++) {
            x.train(s, 1);
        }
        e.dues("eight trains", Edges.countAll(x), 8, 6, 0, 8, 0);
    }

    // ---- 36 sheet

    static void p36SheetIs0To3(Edges e) {
        for (int sort = -1; sort < 2; sort++) {
            int s = sort;
            e.least("sheet", Edges::some, (x, v) -> x.sheet(v, s, 5), 0, 1, BAD);
            e.most("sheet", Edges::some, (x, v) -> x.sheet(v, s, 5), 3, 1, BAD);
        }
    }

    static void p36SortIsNoneTo1(Edges e) {
        e.least("sort", Edges::some, (x, v) -> x.sheet(0, v, 5), -1, 1, BAD);
        e.most("sort", Edges::some, (x, v) -> x.sheet(0, v, 5), 1, 1, BAD);
    }

    static void p36SizeIs0To40(Edges e) {
        for (int sort = 0; sort < 2; sort++) {
            int s = sort;
            e.least("n", Edges::some, (x, v) -> x.sheet(0, s, v), 0, 1, Edges.NEGATIVE);
            e.most("n", Edges::some, (x, v) -> x.sheet(0, s, v), 40, 1, BAD);
            for (int n = 0; n <= 40; n += 20) {
                TrackCircuits x = Edges.some();
                x.sheet(1, s, n);
                e.due("its size", Shown.sizeOf(x, 1), n);
                e.dues("its sort", Check.row(x.load(1, s, 0, 0), x.load(1, 1 - s, 0, 0)), 0, UNLIKE);
            }
        }
    }

    static void p36BadGoesAheadOfASizeBelow0(Edges e) {
        e.refused("sheet", Edges::some, x -> x.sheet(4, 0, -1), BAD);
        e.refused("sort", Edges::some, x -> x.sheet(0, 2, -1), BAD);
        e.refused("sort", Edges::some, x -> x.sheet(0, -2, -1), BAD);
    }

    static void p36MissingWhateverN(Edges e) {
        int[] sizes = {0, 40, 41, -1, LEAST, GREATEST};
        for (int n : sizes) {
            for (int sheet = 0; sheet < 4; sheet++) {
                TrackCircuits x = Edges.some();
                e.due("n " + n, x.sheet(sheet, -1, n), 1);
                e.due("it is missing", x.put(sheet, 0, 0), MISSING);
                e.due("its size", Shown.sizeOf(x, sheet), -1);
            }
        }
        e.refused("no such sheet", Edges::some, x -> x.sheet(4, -1, 0), BAD);
    }

    static void p36AllAre0(Edges e) {
        TrackCircuits x = Check.plain(1);
        for (int sort = 0; sort < 2; sort++) {
            x.sheet(0, sort, 40);
            for (int i = 0; i < 40; i++) {
                x.put(0, i, 7);
            }
            x.sheet(0, -1, 0);
            x.sheet(0, sort, 10);
            x.rule(0, 99);
            e.due("ten", x.tells(0, 0, 0), NONE);
            x.sheet(0, sort, 40);
            x.sheet(1, sort, 10);
            x.copy(0, 30, 1, 0, 10);
            e.due("the last ten", x.tells(1, 0, 0), NONE);
        }
    }

    static void p36EachForItself(Edges e) {
        TrackCircuits x = new TrackCircuits();
        for (int sheet = 0; sheet < 4; sheet++) {
            x.sheet(sheet, sheet % 2, 10 * (sheet + 1));
        }
        for (int sheet = 0; sheet < 4; sheet++) {
            e.due("size of " + sheet, Shown.sizeOf(x, sheet), 10 * (sheet + 1));
        }
        x.sheet(1, -1, 0);
        e.dues("one is missing", Check.row(Shown.sizeOf(x, 0), Shown.sizeOf(x, 1), Shown.sizeOf(x, 2),
            Shown.sizeOf(x, 3)), 10, -1, 30, 40);
    }

    // ---- 37 put

    static void p37SheetIs0To3(Edges e) {
        e.least("sheet", Edges::some, (x, v) -> x.put(v, 0, 1), 0, 1, BAD);
        e.most("sheet", Edges::some, (x, v) -> x.put(v, 0, 1), 3, MISSING, BAD);
    }

    static void p37MissingGoesAheadOfOutside(Edges e) {
        int[] places = {0, -1, 40, LEAST, GREATEST};
        for (int i : places) {
            e.refused("at " + i, Edges::some, x -> x.put(3, i, 1), MISSING);
        }
    }

    static void p37PlacesOfTheRow(Edges e) {
        e.least("i of eight", Edges::some, (x, v) -> x.put(0, v, 1), 0, 1, OUTSIDE);
        e.most("i of eight", Edges::some, (x, v) -> x.put(0, v, 1), 7, 1, OUTSIDE);
        e.most("i of forty", Edges::some, (x, v) -> x.put(1, v, 1), 39, 1, OUTSIDE);
        e.refused("of an empty row", Edges::some, x -> x.put(2, 0, 1), OUTSIDE);
        e.refused("of an empty row", Edges::some, x -> x.put(2, -1, 1), OUTSIDE);
    }

    /** What a SHEET holds of v, as the FEED of a SECTION: 0 if it can't be one. */
    private static int held(int sort, int v) {
        TrackCircuits x = new TrackCircuits();
        Edges.lay(x, 0, sort, 0, v, 0, 1);
        return x.load(0, sort, 0, 1) == 1 ? x.of(0, 0) : 0;
    }

    static void p37ShortsKeepTheLowest16Bits(Edges e) {
        e.dues("of shorts", Check.row(held(0, 99), held(0, 65536 + 99), held(0, LEAST + 99), held(0, -65536 + 1),
            held(0, 32768 + 50), held(0, 256 + 50), held(0, -50)), 99, 99, 99, 1, 0, 0, 0);
        e.dues("of ints", Check.row(held(1, 99), held(1, 65536 + 99), held(1, LEAST + 99), held(1, -65536 + 1)),
            99, 0, 0, 0);
    }

    static void p37AnyInt(Edges e) {
        int[] values = {LEAST, GREATEST, -1, 0, 32767, 32768, 65535, 65536};
        for (int v : values) {
            e.dues("of " + v, Check.row(Edges.some().put(0, 7, v), Edges.some().put(1, 39, v)), 1, 1);
        }
    }

    static void p37JustThatItem(Edges e) {
        TrackCircuits x = Edges.bare();
        x.put(0, 1, 41);
        x.put(0, 7, 8);
        x.load(0, 0, 0, 2);
        e.dues("the first", Check.row(x.of(0, 3), x.of(0, 0), x.of(0, 1), x.of(0, 2)), 0, 41, 2, 3);
        e.dues("the second", Check.row(x.of(1, 3), x.of(1, 0), x.of(1, 1), x.of(1, 2)), 4, 50, 1, 8);
        TrackCircuits y = Edges.bare();
        y.sheet(3, 1, 40);
        y.put(1, 39, 5);
        y.put(3, 0, 5);
        e.due("those beside it stay", y.load(0, 0, 0, 2), 2);
    }

    // ---- 38 copy

    /** SHEETS 0 and 3 of shorts, 1 of ints, 2 empty. */
    private static TrackCircuits pair() {
        TrackCircuits x = Edges.bare();
        x.sheet(3, 0, 5);
        return x;
    }

    static void p38SheetsAre0To3(Edges e) {
        e.least("sheet", EdgesOfHost::pair, (x, v) -> x.copy(v, 0, 3, 0, 5), 0, 5, BAD);
        e.most("sheet", EdgesOfHost::pair, (x, v) -> x.copy(v, 0, 0, 0, 5), 3, 5, BAD);
        e.least("other", EdgesOfHost::pair, (x, v) -> x.copy(3, 0, v, 0, 5), 0, 5, BAD);
        e.most("other", EdgesOfHost::pair, (x, v) -> x.copy(0, 0, v, 0, 5), 3, 5, BAD);
    }

    static void p38BadThenMissingThenUnlikeThenOutside(Edges e) {
        e.refused("BAD, the other missing", Edges::some, x -> x.copy(4, 0, 3, 0, 1), BAD);
        e.refused("missing, the other BAD", Edges::some, x -> x.copy(3, 0, 4, 0, 1), BAD);
        e.refused("from a missing one", Edges::some, x -> x.copy(3, 0, 0, 0, 1), MISSING);
        e.refused("to a missing one", Edges::some, x -> x.copy(0, 0, 3, 0, 1), MISSING);
        e.refused("missing onto itself", Edges::some, x -> x.copy(3, 0, 3, 0, 0), MISSING);
        e.refused("missing, places outside", Edges::some, x -> x.copy(3, -1, 0, -1, -1), MISSING);
        e.refused("unlike", Edges::some, x -> x.copy(0, 0, 1, 0, 1), UNLIKE);
        e.refused("unlike, the other way", Edges::some, x -> x.copy(1, 0, 0, 0, 1), UNLIKE);
        e.refused("unlike, none", Edges::some, x -> x.copy(1, 0, 2, 0, 0), UNLIKE);
        e.refused("unlike, places outside", Edges::some, x -> x.copy(1, -1, 0, 99, -1), UNLIKE);
    }

    static void p38ManyAre0ToWhatThereIs(Edges e) {
        e.least("n", EdgesOfHost::pair, (x, v) -> x.copy(0, 0, 3, 0, v), 0, 0, OUTSIDE);
        e.most("n, by the other's size", EdgesOfHost::pair, (x, v) -> x.copy(0, 0, 3, 0, v), 5, 5, OUTSIDE);
        e.most("n, by its own size", EdgesOfHost::pair, (x, v) -> x.copy(3, 0, 0, 0, v), 5, 5, OUTSIDE);
        e.most("n, of forty onto itself", EdgesOfHost::pair, (x, v) -> x.copy(1, 0, 1, 0, v), 40, 40, OUTSIDE);
        e.most("n, of an empty row", EdgesOfHost::pair, (x, v) -> x.copy(2, 0, 2, 0, v), 0, 0, OUTSIDE);
    }

    static void p38PlacesOfTheRows(Edges e) {
        e.least("i", EdgesOfHost::pair, (x, v) -> x.copy(0, v, 3, 0, 3), 0, 3, OUTSIDE);
        e.most("i", EdgesOfHost::pair, (x, v) -> x.copy(0, v, 3, 0, 3), 5, 3, OUTSIDE);
        e.least("j", EdgesOfHost::pair, (x, v) -> x.copy(0, 0, 3, v, 3), 0, 3, OUTSIDE);
        e.most("j", EdgesOfHost::pair, (x, v) -> x.copy(0, 0, 3, v, 3), 2, 3, OUTSIDE);
    }

    static void p38NoneAtTheEnds(Edges e) {
        e.least("i, none", EdgesOfHost::pair, (x, v) -> x.copy(0, v, 3, 0, 0), 0, 0, OUTSIDE);
        e.most("i, none", EdgesOfHost::pair, (x, v) -> x.copy(0, v, 3, 0, 0), 8, 0, OUTSIDE);
        e.least("j, none", EdgesOfHost::pair, (x, v) -> x.copy(0, 0, 3, v, 0), 0, 0, OUTSIDE);
        e.most("j, none", EdgesOfHost::pair, (x, v) -> x.copy(0, 0, 3, v, 0), 5, 0, OUTSIDE);
    }

    static void p38NoSumWrapsAround(Edges e) {
        int[][] far = {{GREATEST, 0, GREATEST}, {0, GREATEST, GREATEST}, {LEAST, 0, LEAST}, {1, 0, GREATEST},
            {0, 1, GREATEST}, {8, 0, LEAST}, {GREATEST, GREATEST, 2}, {LEAST, LEAST, GREATEST}, {5, 0, -5}};
        for (int[] f : far) {
            e.refused("far", EdgesOfHost::pair, x -> x.copy(0, f[0], 3, f[1], f[2]), OUTSIDE);
        }
    }

    static void p38AsTheyWereOntoItself(Edges e) {
        TrackCircuits right = Edges.bare();
        e.due("to the right by one", right.copy(0, 0, 0, 1, 7), 7);
        e.due("one", right.load(0, 0, 1, 1), 1);
        e.dues("the first four", Check.row(right.of(0, 3), right.of(0, 0), right.of(0, 1), right.of(0, 2)), 0, 40, 2, 3);
        TrackCircuits left = Edges.bare();
        e.due("to the left by four", left.copy(0, 4, 0, 0, 4), 4);
        e.due("two", left.load(0, 0, 0, 2), 2);
        e.dues("twice the second", Check.row(left.of(0, 0), left.of(0, 3), left.of(1, 0), left.of(1, 3)), 50, 4, 50, 4);
        TrackCircuits whole = Edges.bare();
        TrackCircuits same = Edges.bare();
        e.due("all onto itself", whole.copy(1, 0, 1, 0, 40), 40);
        e.same("stays", Shown.sheets(whole), Shown.sheets(same));
    }

    static void p38ItemsBesideStay(Edges e) {
        TrackCircuits x = Edges.bare();
        Edges.lay(x, 3, 0, 1, 60, 5, 6, 2, 70, 7, 8);
        e.due("two in the middle", x.copy(0, 5, 3, 3, 2), 2);
        x.load(3, 0, 0, 2);
        // the LENGTH of the first is 50 then: it is left out; the KIND of the second is 1
        e.dues("the second alone", Check.row(x.count(0), x.of(0, 3), x.of(0, 0), x.of(0, 2)), 1, 1, 70, 8);
        x.load(0, 0, 0, 2);
        e.dues("where they come from they stay", Check.row(x.count(0), x.of(1, 0), x.of(2, 0)), 3, 40, 50);
    }

    static void p38IntsStayWhole(Edges e) {
        TrackCircuits x = Check.plain(1);
        Edges.lay(x, 0, 1, LEAST, GREATEST, 65537);
        x.sheet(3, 1, 1);
        for (int i = 0; i < 3; i++) {
            x.copy(0, i, 3, 0, 1);
            e.due("neither UP nor DOWN", x.tells(3, 0, 1), 0);
        }
    }
}
