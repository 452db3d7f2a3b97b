/** Boundary cases of promises 30 and 31: the tape and its texts. */
final class EdgesOfTexts {
    private static final int BAD = Edges.BAD, FULL = Edges.FULL;

    private EdgesOfTexts() {
    }

    /** A call with one of its bytes left open, by number. */
    private static int feedWith(TrackCircuits x, int n, int place, int v) {
        int[] b = {65, 65, 65, 65, 65};
        b[place] = v;
        return x.feed(n, b[0], b[1], b[2], b[3], b[4]);
    }

    private static TrackCircuits tape(int bytes) {
        TrackCircuits x = Check.plain(2);
        Check.feedAll(x, " ".repeat(bytes));
        return x;
    }

    // ---- 30 feed

    static void p30BytesAre1To5(Edges e) {
        e.least("n", Edges::some, (x, v) -> x.feed(v, 32, 32, 32, 32, 32), 1, 25, BAD);
        e.most("n", Edges::some, (x, v) -> x.feed(v, 32, 32, 32, 32, 32), 5, 29, BAD);
    }

    static void p30EachByteIs0To255(Edges e) {
        for (int place = 0; place < 5; place++) {
            int p = place;
            e.least("byte " + place, Edges::some, (x, v) -> feedWith(x, 5, p, v), 0, 29, BAD);
            e.most("byte " + place, Edges::some, (x, v) -> feedWith(x, 5, p, v), 255, 29, BAD);
        }
    }

    static void p30AlsoThoseThatAreNotAsked(Edges e) {
        for (int n = 1; n < 5; n++) {
            for (int place = n; place < 5; place++) {
                int many = n;
                int p = place;
                e.least("byte " + place, Edges::some, (x, v) -> feedWith(x, many, p, v), 0, 24 + n, BAD);
                e.most("byte " + place, Edges::some, (x, v) -> feedWith(x, many, p, v), 255, 24 + n, BAD);
            }
        }
    }

    static void p30JustTheFirstNCome(Edges e) {
        for (int n = 1; n <= 5; n++) {
            TrackCircuits x = Check.plain(1);
            Check.feedAll(x, "dro");
            x.feed(n, 'p', ' ', '\n', ' ', ' ');
            e.due("count", x.count(2), 3 + n);
            e.due("read", x.text(), 1);
        }
        TrackCircuits y = Check.plain(1);
        y.feed(4, 'd', 'r', 'o', 'p', 'x');
        e.due("the fifth doesn't come", y.text(), 1);
    }

    static void p30SixtyAtMost(Edges e) {
        for (int n = 1; n <= 5; n++) {
            int many = n;
            e.due("just room for " + n, tape(60 - n).feed(n, 1, 1, 1, 1, 1), 60);
            e.refused("one byte too few for " + n, () -> tape(61 - many), x -> x.feed(many, 1, 1, 1, 1, 1), FULL);
            e.refused("no room for " + n, Edges::full, x -> x.feed(many, 1, 1, 1, 1, 1), FULL);
        }
        e.due("as many as there may be", Edges.full().count(2), 60);
    }

    static void p30BadGoesAheadOfFull(Edges e) {
        e.refused("n", Edges::full, x -> x.feed(6, 1, 1, 1, 1, 1), BAD);
        e.refused("n", Edges::full, x -> x.feed(0, 1, 1, 1, 1, 1), BAD);
        e.refused("a byte", Edges::full, x -> x.feed(1, 256, 1, 1, 1, 1), BAD);
        e.refused("one that is not asked", Edges::full, x -> x.feed(1, 1, 1, 1, 1, -1), BAD);
    }

    static void p30RoomAgainBehindAText(Edges e) {
        TrackCircuits x = tape(60);
        e.due("full", x.feed(1, 32, 0, 0, 0, 0), FULL);
        e.due("read", x.text(), -160);
        e.due("the first again", x.feed(1, 32, 0, 0, 0, 0), 1);
        Check.feedAll(x, " ".repeat(59));
        e.due("sixty again", x.count(2), 60);
    }

    // ---- 31 text

    private static void reads(Edges e, String text, int want) {
        TrackCircuits x = Check.plain(2);
        e.due("'" + text + "'", Check.read(x, text), want);
        e.due("the tape is empty behind '" + text + "'", x.count(2), 0);
    }

    static void p31EmptyEndsTooEarly(Edges e) {
        reads(e, "", -100);
        TrackCircuits x = Edges.one();
        e.dues("again and again", Check.row(x.text(), x.text()), -100, -100);
    }

    static void p31BlanksAlone(Edges e) {
        reads(e, " ", -101);
        reads(e, "\n", -101);
        reads(e, " \n".repeat(30), -160);
    }

    static void p31BlanksAre32And10(Edges e) {
        int[] others = {0, 9, 11, 12, 13, 31, 33, 160, 255};
        for (int b : others) {
            TrackCircuits x = Edges.one();
            x.feed(1, b, 0, 0, 0, 0);
            Check.feedAll(x, "drop");
            e.due("byte " + b + " ahead", x.text(), -100);
            Check.feedAll(x, "drop");
            x.feed(1, b, 0, 0, 0, 0);
            e.due("byte " + b + " behind", x.text(), -104);
        }
        reads(e, " \n drop \n ", 1);
    }

    static void p31BlanksNeedNotStand(Edges e) {
        reads(e, "train1;gone01;fault0 1;mend0;weather9;drop", 6);
        reads(e, "section0 40 0 1", 1);
    }

    static void p31LettersAreAToZ(Edges e) {
        reads(e, "drop`", -104);
        reads(e, "drop{", -104);
        reads(e, "dropa", -100);
        reads(e, "dropz", -100);
        reads(e, "Drop", -100);
        reads(e, "droP", -100);
        reads(e, "`", -100);
        reads(e, "a", -100);
        reads(e, "z", -100);
    }

    static void p31DigitsAre0To9(Edges e) {
        reads(e, "train /", -106);
        reads(e, "train :", -106);
        reads(e, "train 0/", -107);
        reads(e, "train 0:", -107);
        reads(e, "weather 0", 1);
        reads(e, "weather 9", 1);
        reads(e, "train -1", -106);
        reads(e, "train +1", -106);
    }

    static void p31NumbersOf1And2And3Digits(Edges e) {
        reads(e, "train 1", 1);
        reads(e, "train 01", 1);
        reads(e, "train 99", 0);
        reads(e, "train 001", -106);
        reads(e, "train 000", -106);
        reads(e, "train 100", -106);
        reads(e, "train 12345678901234567890", -106);
        reads(e, "section 0 99 9 9", 1);
        reads(e, "section 0 100 9 9", -110);
        reads(e, "section 0 40 0 001", -115);
    }

    static void p31TooManyAndTooFewNumbers(Edges e) {
        String[] words = {"section", "train", "gone", "fault", "mend", "weather", "moment", "drop"};
        int[] takes = {4, 1, 1, 2, 1, 1, 0, 0};
        for (int w = 0; w < 8; w++) {
            String most = words[w] + " 1".repeat(takes[w]);
            e.due(most + " can stand", Check.read(Check.plain(2), most) >= 0 ? 1 : 0, 1);
            reads(e, most + " 1", -100 - (most.length() + 1));
            if (takes[w] > 0) {
                String fewer = most.substring(0, most.length() - 2);
                reads(e, fewer, -100 - fewer.length());
                reads(e, fewer + " ", -100 - fewer.length() - 1);
                reads(e, fewer + ";drop", -100 - fewer.length());
                reads(e, fewer + " drop", -100 - fewer.length() - 1);
            }
        }
    }

    static void p31WordsThatAreNone(Edges e) {
        String[] words = {"section", "train", "gone", "fault", "mend", "weather", "moment", "drop"};
        for (String word : words) {
            reads(e, word.substring(1) + " 0", -100);
            reads(e, word.substring(0, word.length() - 1) + " 0", -100);
            reads(e, word + "s 0", -100);
            reads(e, "x" + word.substring(1) + " 0", -100);
            reads(e, word.substring(0, word.length() - 1) + "x 0", -100);
            reads(e, "drop;" + word + word, -105);
        }
        reads(e, "set 0 0 1", -100);
    }

    static void p31SignsBetweenAlone(Edges e) {
        reads(e, ";", -100);
        reads(e, ";drop", -100);
        reads(e, "drop;", -105);
        reads(e, "drop; ", -106);
        reads(e, "drop;;drop", -105);
        reads(e, "drop; ;drop", -106);
        reads(e, "drop drop", -105);
        reads(e, "drop,drop", -104);
        reads(e, "drop;drop", 2);
        reads(e, "drop ; drop", 2);
    }

    static void p31OneAndTwelveClauses(Edges e) {
        reads(e, "moment", 1);
        reads(e, "moment" + ";moment".repeat(7), 8);
        reads(e, "drop" + ";drop".repeat(11), 2);
        TrackCircuits x = Check.plain(8);
        e.due("eight of twelve are done", Check.read(x, "drop" + ";drop".repeat(11)), 8);
        e.due("none is left", x.count(0), 0);
        reads(e, "drop" + ";drop".repeat(11) + ";", -160);
    }

    static void p31SixtyBytes(Edges e) {
        String pad = " ".repeat(56);
        reads(e, pad + "drop", 1);
        reads(e, "drop" + pad, 1);
        reads(e, " ".repeat(59) + "x", -159);
        reads(e, "drop;" + " ".repeat(55), -160);
        reads(e, "drop" + " ".repeat(55) + ";", -160);
        reads(e, "drop" + " ".repeat(55) + "1", -159);
        reads(e, "a".repeat(60), -100);
        reads(e, "train " + "1".repeat(54), -106);
    }

    static void p31TheFirstFaultIsTold(Edges e) {
        reads(e, "x;y", -100);
        reads(e, "drop;x;y", -105);
        reads(e, "train 100;x", -106);
        reads(e, "drop 1;x", -105);
        reads(e, "train x", -106);
    }

    static void p31BytesThatBeginNone(Edges e) {
        for (int b = 0; b < 256; b++) {
            boolean isLetter = b >= 'a' && b <= 'z';
            boolean isDigit = b >= '0' && b <= '9';
            boolean isBlank = b == 32 || b == 10;
            TrackCircuits x = Edges.one();
            x.feed(5, 'm', 'e', 'n', 'd', b);
            e.due("mend and byte " + b, x.text(), isDigit ? b == '0' ? 1 : 0 : isLetter ? -100 : isBlank ? -105 : -104);
        }
    }

    static void p31ByAFaultNothingIsDoneTheTapeIsEmpty(Edges e) {
        for (int i = 0; i < 2; i++) {
            TrackCircuits x = Check.plain(2);
            TrackCircuits y = Check.plain(2);
            Check.feedAll(x, "train 0;fault 0 1;weather 5;moment;drop;x");
            e.due("its fault", x.text(), -140);
            e.due("empty", x.count(2), 0);
            e.same("all else", i == 0 ? Shown.state(x) : Shown.sheets(x), i == 0 ? Shown.state(y) : Shown.sheets(y));
        }
    }

    static void p31SectionsAtTheirEnds(Edges e) {
        TrackCircuits x = new TrackCircuits();
        e.due("least", Check.read(x, "section 0 1 0 1"), 1);
        e.due("most", Check.read(x, "section 5 99 9 9"), 1);
        String[] refused = {"section 6 1 0 1", "section 0 0 0 1", "section 0 1 10 1", "section 0 1 0 0",
            "section 0 1 0 10"};
        for (String text : refused) {
            e.due(text, Check.read(x, text), 0);
        }
        e.due("two came", x.count(0), 2);
        for (int i = 2; i < 8; i++) {
            e.due("more", Check.read(x, "section 0 1 0 1"), 1);
        }
        e.due("a ninth isn't done", Check.read(x, "section 0 1 0 1"), 0);
        e.due("eight", x.count(0), 8);
    }

    static void p31AsManySectionsAsATextHasRoomFor(Edges e) {
        TrackCircuits x = new TrackCircuits();
        e.due("four", Check.read(x, "section1 9 2 3;section2 8 3 4;section3 7 4 5;section4 6 5 6"), 4);
        for (int s = 0; s < 4; s++) {
            e.dues("as told, " + s, Check.row(x.of(s, 3), x.of(s, 0), x.of(s, 1), x.of(s, 2)), 1 + s, 9 - s, 2 + s, 3 + s);
        }
    }

    static void p31TrainsFaultsMendsAtTheirEnds(Edges e) {
        TrackCircuits x = Check.plain(8);
        e.due("trains", Check.read(x, "train 0;train 7;train 8;train 99"), 2);
        e.due("they stand", x.who(3), 129);
        e.due("gone", Check.read(x, "gone 0;gone 7;gone 8;gone 1"), 3);
        e.due("none stands", x.who(3), 0);
        e.due("faults", Check.read(x, "fault 0 0;fault 3 7;fault 4 0;fault 0 8"), 2);
        e.due("up to six", Check.read(x, "fault 1 1;fault 1 1;fault 1 1;fault 1 1;fault 1 1"), 4);
        e.due("six", x.count(1), 6);
        e.due("mends", Check.read(x, "mend 0;mend 7;mend 8;mend 2"), 3);
        e.due("four", x.count(1), 4);
    }

    static void p31WeatherIs0To9(Edges e) {
        TrackCircuits x = Edges.one();
        e.due("9, 10", Check.read(x, "weather 9;weather 10"), 1);
        e.due("it is 9", x.rule(2, 1), 9);
        e.due("0, 99", Check.read(x, "weather 00;weather 99"), 1);
        e.due("it is 0", x.rule(2, 1), 0);
    }

    static void p31DropsAndMomentsThatAreRefused(Edges e) {
        TrackCircuits x = Edges.one();
        e.due("a second drop isn't done", Check.read(x, "drop;drop;moment"), 2);
        TrackCircuits flaps = Edges.flapping();
        flaps.text();
        e.due("one that FLAPS isn't done", Check.read(flaps, "moment;moment"), 0);
        e.dues("log stays", Check.row(flaps.log(-1), flaps.log(0)), 1, 1);
        e.due("later ones are", Check.read(flaps, "moment;drop;moment"), 2);
    }
}
