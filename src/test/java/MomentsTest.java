/** Promises 14 to 20: moments truly and in thought. */
public final class MomentsTest {
    private static final int BAD = TrackCircuits.BAD, STATE = TrackCircuits.STATE, NONE = TrackCircuits.NONE;
    private static final Check CHECK = new Check();

    private static void logIs(String what, TrackCircuits x, int... changes) {
        CHECK.due(what + ": how many", x.log(NONE), changes.length);
        for (int i = 0; i < changes.length; i++) {
            CHECK.due(what + ": " + i, x.log(i), changes[i]);
        }
        CHECK.due(what + ": no more", x.log(changes.length), NONE);
    }

    private static void plainOnes() {
        TrackCircuits x = Check.yard(Check.row(0, 20, 0, 1), Check.row(0, 19, 0, 1));
        CHECK.due("P14 PICK or more", x.moment(), 1);
        logIs("P15 plain", x, 1);
        x.force(1, 1);
        CHECK.due("P14 HOLD or more keeps", x.moment(), 0);
        logIs("P15 nothing", x);
        CHECK.due("P14 both", x.who(0), 3);
        x.set(1, 0, 10);
        CHECK.due("P14 just HOLD", x.moment(), 0);
        x.set(1, 0, 9);
        CHECK.due("P14 below HOLD", x.moment(), 1);
        logIs("P15 down", x, 10);
        CHECK.due("P15 bad", x.log(-2), BAD);
        CHECK.due("P15 far", x.log(Integer.MAX_VALUE), NONE);
        x.rule(1, 30);
        x.set(0, 0, 25);
        CHECK.due("P14 PICK is enough, whatever HOLD", x.moment(), 0);
    }

    private static void slowOnes() {
        TrackCircuits x = Check.yard(Check.row(1, 20, 0, 1));
        CHECK.due("slow 1", x.moment(), 0);
        CHECK.due("WAITS 1", x.of(0, 7), 1);
        CHECK.due("slow 2", x.moment(), 0);
        CHECK.due("WAITS 2", x.of(0, 7), 2);
        CHECK.due("slow 3", x.moment(), 1);
        CHECK.due("WAITS 3", x.of(0, 7), 3);
        CHECK.due("slow 4", x.moment(), 0);
        CHECK.due("WAITS 3 at most", x.of(0, 7), 3);
        x.set(0, 0, 19);
        CHECK.due("holds", x.moment(), 0);
        CHECK.due("WAITS 0 below PICK, also if it is UP", x.of(0, 7), 0);
        x.set(0, 0, 9);
        CHECK.due("falls at once", x.moment(), 1);
    }

    private static void sticks() {
        TrackCircuits x = Check.yard(Check.row(2, 20, 0, 1), Check.row(2, 20, 0, 1), Check.row(0, 5, 0, 1),
            Check.row(2, 50, 0, 1));
        CHECK.due("the first as a plain, the next by it", x.moment(), 2);
        logIs("sticks", x, 1, 11);
        x.force(0, 0);
        x.train(0, 1);
        CHECK.due("one that is UP stays, left of it DOWN", x.moment(), 0);
        CHECK.due("the fourth stays DOWN", x.who(0), 2);
        x.force(3, 1);
        CHECK.due("till forced", x.moment(), 0);
        CHECK.due("then it holds", x.who(0), 10);
    }

    private static void codedOnes() {
        TrackCircuits x = Check.yard(Check.row(3, 39, 0, 1), Check.row(0, 5, 0, 1));
        x.moment();
        CHECK.due("WAITS by all of the CURRENT", x.of(0, 7), 1);
        x.moment();
        CHECK.due("half is 19, cut", x.moment(), 0);
        x.set(0, 0, 40);
        CHECK.due("half is 20", x.moment(), 1);
        x.set(0, 0, 20);
        CHECK.due("half is HOLD", x.moment(), 0);
        x.set(0, 0, 19);
        CHECK.due("half is below HOLD", x.moment(), 1);
        TrackCircuits y = Check.yard(Check.row(3, 20, 0, 1), Check.row(0, 40, 0, 1));
        y.moment();
        y.moment();
        CHECK.due("all, if the one right of it is UP", y.moment(), 1);
        TrackCircuits alone = Check.yard(Check.row(0, 5, 0, 1), Check.row(3, 20, 0, 1));
        alone.moment();
        alone.moment();
        CHECK.due("all, if there is none right of it", alone.moment(), 1);
        TrackCircuits early = Check.yard(Check.row(3, 99, 0, 1));
        CHECK.due("as a slow", early.moment(), 0);
    }

    private static void backs() {
        TrackCircuits x = Check.yard(Check.row(4, 20, 0, 1), Check.row(0, 40, 0, 1), Check.row(4, 20, 0, 1));
        CHECK.due("up, then asked again and down", x.moment(), 4);
        logIs("P15 backs", x, 1, 11, 21, 0);
        CHECK.due("who is up", x.who(0), 6);
        x.train(1, 1);
        CHECK.due("the one right falls, it goes up", x.moment(), 2);
        logIs("P15 backs then", x, 10, 1);
    }

    private static void guards() {
        TrackCircuits alone = Check.yard(Check.row(5, 20, 0, 1));
        CHECK.due("alone: as a plain", alone.moment(), 1);
        TrackCircuits first = Check.yard(Check.row(5, 20, 0, 1), Check.row(0, 20, 0, 1));
        CHECK.due("first: when the right is up", first.moment(), 2);
        logIs("P15 first", first, 11, 1);
        TrackCircuits middle = Check.yard(Check.row(0, 5, 0, 1), Check.row(5, 20, 0, 1), Check.row(0, 20, 0, 1));
        CHECK.due("middle: as a stick, left is DOWN", middle.moment(), 1);
        middle.force(1, 1);
        CHECK.due("middle: kept by the right", middle.moment(), 0);
        middle.train(2, 1);
        CHECK.due("middle: none beside is UP", middle.moment(), 2);
        logIs("P15 middle", middle, 20, 10);
        TrackCircuits last = Check.yard(Check.row(0, 20, 0, 1), Check.row(5, 20, 0, 1));
        CHECK.due("last: by the left", last.moment(), 2);
        last.train(0, 1);
        CHECK.due("last: down though it was UP", last.moment(), 2);
        logIs("P15 last", last, 0, 10);
    }

    private static void queueOrder() {
        // the change of 1 brings 0 to the end, behind 2 that still waits and doesn't come again
        TrackCircuits x = Check.yard(Check.row(4, 40, 0, 1), Check.row(0, 40, 0, 1), Check.row(2, 40, 0, 1));
        CHECK.due("queue", x.moment(), 4);
        logIs("P15 queue", x, 1, 11, 21, 0);
        TrackCircuits y = Check.yard(Check.row(5, 40, 0, 1), Check.row(5, 40, 0, 1), Check.row(0, 40, 0, 1),
            Check.row(4, 40, 0, 1), Check.row(0, 40, 0, 1));
        y.force(1, 1);
        y.force(0, 1);
        y.train(2, 1);
        CHECK.due("queue 2", y.moment(), 3);
        logIs("P15 queue 2", y, 31, 41, 30);
        queueIs("left ahead of right", "455", "45 25 45", 3, 0, 10, 1, 11, 0, 21);
        queueIs("a STICK comes again", "4520", "45 45 25 5", 3, 0, 10, 1, 11, 0, 21);
        queueIs("none comes that doesn't look", "45253", "25 45 25 15 5", 27, 0, 10, 40, 1, 30, 11, 0, 21);
        queueIs("nor one that looks to the other side", "45242", "25 25 45 45 45", 11, 0, 10, 41, 1, 30, 11, 0, 21);
    }

    /** What a moment changes in a yard of KINDS and FEEDS, with relays that are UP at first. */
    private static void queueIs(String what, String kinds, String feeds, int up, int... changes) {
        TrackCircuits x = new TrackCircuits();
        String[] each = feeds.split(" ");
        for (int s = 0; s < each.length; s++) {
            x.section(kinds.charAt(s) - '0', Integer.parseInt(each[s]), 0, 1);
            x.force(s, up >> s & 1);
        }
        CHECK.due("P14 " + what, x.moment(), changes.length);
        logIs("P15 " + what, x, changes);
    }

    /** The longest that settles of many tried: 36 CHANGES. */
    private static void longOne() {
        TrackCircuits x = new TrackCircuits();
        int[] kinds = {5, 4, 4, 4, 4, 5, 4, 3};
        int[] feeds = {45, 45, 25, 25, 25, 45, 45, 5};
        for (int i = 0; i < 8; i++) {
            x.section(kinds[i], feeds[i], 0, 1);
        }
        x.force(0, 1);
        x.force(6, 1);
        x.force(7, 1);
        CHECK.due("P18 a long moment", x.run(1, 2), 36);
        CHECK.due("P14 a long moment", x.moment(), 36);
        CHECK.due("P15 a long log", x.log(NONE), 36);
        CHECK.holds("P15 its last", x.log(35) >= 0);
        CHECK.due("P15 behind its last", x.log(36), NONE);
    }

    private static void flaps() {
        TrackCircuits x = Check.flapping();
        CHECK.due("P14 it FLAPS", x.moment(), STATE);
        CHECK.due("relays as ahead", x.who(0), 0);
        CHECK.due("WAITS as ahead", x.of(0, 7), 0);
        TrackCircuits y = Check.yard(Check.row(0, 40, 0, 1));
        y.moment();
        y.section(4, 40, 0, 1);
        y.section(5, 40, 0, 1);
        y.force(1, 1);
        y.train(0, 1);
        CHECK.due("P14 it FLAPS", y.moment(), STATE);
        logIs("P15 of the latest that didn't", y, 1);
        CHECK.due("relays as ahead", y.who(0), 3);
        CHECK.due("WAITS as ahead", y.of(0, 7), 1);
        CHECK.due("TRAINS as ahead", y.who(3), 1);
    }

    private static void who() {
        TrackCircuits x = Check.plain(5);
        x.fault(0, 0);
        x.fault(0, 1);
        x.fault(1, 2);
        x.train(1, 1);
        x.train(3, 1);
        x.force(0, 1);
        x.force(3, 1);
        x.force(4, 1);
        CHECK.due("P16 up", x.who(0), 25);
        CHECK.due("P16 unsafe", x.who(1), 9);
        CHECK.due("P16 wrong: not troubled and DOWN", x.who(2), 4);
        CHECK.due("P16 trains", x.who(3), 10);
        CHECK.due("P16 breaks", x.who(4), 3);
        CHECK.due("P16 bad", x.who(5), BAD);
        CHECK.due("P16 bad", x.who(-1), BAD);
        int[] aspects = {1, 0, 0, 2, 2};
        for (int s = 0; s < 5; s++) {
            CHECK.due("P17 aspect of " + s, x.aspect(s), aspects[s]);
        }
        x.force(4, 0);
        CHECK.due("P17 the last, DOWN", x.aspect(4), 0);
        CHECK.due("P17 right of it DOWN", x.aspect(3), 1);
        CHECK.due("P17 bad", x.aspect(5), BAD);
        CHECK.due("P17 bad", x.aspect(-1), BAD);
    }

    private static void runs() {
        TrackCircuits x = Check.plain(3);
        x.train(0, 1);
        x.fault(3, 1);
        x.set(1, 0, 99);
        CHECK.due("P18 none: up", x.run(0, 0), 0);
        CHECK.due("P18 none: trains", x.run(0, 3), 1);
        CHECK.due("P18 none: unsafe", x.run(0, 1), 0);
        CHECK.due("P18 one: up", x.run(1, 0), 6);
        CHECK.due("P18 one: trains have moved", x.run(1, 3), 2);
        CHECK.due("P18 one: unsafe ahead of the moving", x.run(1, 1), 0);
        CHECK.due("P18 one: changes", x.run(1, 2), 2);
        // a quarter of 99 is 24: the rusty one stays UP under the train
        CHECK.due("P18 two: unsafe", x.run(2, 1), 1);
        CHECK.due("P18 two: changes", x.run(2, 2), 3);
        CHECK.due("P18 three: changes", x.run(3, 2), 4);
        CHECK.due("P18 three: up", x.run(3, 0), 3);
        CHECK.due("P18 three: unsafe, all together", x.run(3, 1), 1);
        CHECK.due("P18 three: trains are gone", x.run(3, 3), 0);
        CHECK.due("P18 twenty: up", x.run(20, 0), 7);
        CHECK.due("P18 twenty: changes", x.run(20, 2), 5);
        x.fault(3, 0);
        x.set(0, 0, 90);
        CHECK.due("P18 unsafe, all together", x.run(2, 1), 2);
        CHECK.due("P18 nothing is kept", x.who(0), 0);
        CHECK.due("P18 nothing is kept", x.who(3), 1);
        CHECK.due("P18 nothing is kept", x.of(1, 7), 0);
        CHECK.due("P18 nothing is kept", x.log(NONE), 0);
        CHECK.due("P18 bad", x.run(21, 0), BAD);
        CHECK.due("P18 bad", x.run(-1, 0), BAD);
        CHECK.due("P18 bad", x.run(0, 4), BAD);
        CHECK.due("P18 bad", x.run(0, -1), BAD);
        TrackCircuits slow = Check.yard(Check.row(1, 40, 0, 1));
        CHECK.due("P18 WAITS go on in thought", slow.run(2, 0), 0);
        CHECK.due("P18 WAITS go on in thought", slow.run(3, 0), 1);
        TrackCircuits flaps = Check.flapping();
        for (int what = 0; what < 4; what++) {
            CHECK.due("P18 flaps", flaps.run(1, what), STATE);
            CHECK.due("P18 none, so none flaps", flaps.run(0, what), 0);
        }
        flaps.train(1, 1);
        CHECK.due("P18 the first doesn't flap", flaps.run(1, 0), 1);
        CHECK.due("P18 the second flaps", flaps.run(2, 0), STATE);
        CHECK.due("P18 two of three", Check.lateFlapping().run(2, 0), 6);
        CHECK.due("P18 the third flaps", Check.lateFlapping().run(3, 0), STATE);
    }

    private static void clears() {
        TrackCircuits x = Check.yard(Check.row(0, 40, 0, 1), Check.row(1, 40, 0, 1), Check.row(0, 40, 0, 1),
            Check.row(0, 19, 0, 1));
        x.train(2, 1);
        x.force(0, 1);
        CHECK.due("P19 UP already: behind one", x.clears(0), 1);
        CHECK.due("P19 a slow one", x.clears(1), 3);
        CHECK.due("P19 trains stand", x.clears(2), NONE);
        CHECK.due("P19 too little", x.clears(3), NONE);
        CHECK.due("P19 bad", x.clears(4), BAD);
        CHECK.due("P19 bad", x.clears(-1), BAD);
        CHECK.due("P19 nothing is kept", x.who(0), 1);
        CHECK.due("P19 nothing is kept", x.of(1, 7), 0);
        CHECK.due("P19 flaps", Check.flapping().clears(0), NONE);
        TrackCircuits late = Check.lateFlapping();
        CHECK.due("P19 UP ahead of the one that flaps", late.clears(1), 1);
        CHECK.due("P19 the third flaps, as the slow one goes UP", late.clears(3), NONE);
        CHECK.due("P19 DOWN till the third flaps", late.clears(0), NONE);
    }

    private static void order() {
        TrackCircuits x = Check.yard(Check.row(4, 40, 0, 1), Check.row(0, 40, 0, 1));
        CHECK.due("as told", x.run(1, 2), 3);
        CHECK.due("P20 as one as told", x.order(0), 1);
        CHECK.due("P20 fewer changes", x.order(1), 1);
        TrackCircuits y = Check.yard(Check.row(4, 40, 0, 1), Check.row(4, 40, 0, 1), Check.row(4, 40, 0, 1));
        CHECK.due("as told", y.run(1, 0), 5);
        CHECK.due("P20 like", y.order(0), 1);
        CHECK.due("P20 changes", y.order(1), 2);
        TrackCircuits z = Check.yard(Check.row(5, 40, 0, 1), Check.row(5, 40, 0, 1), Check.row(0, 5, 0, 1));
        z.force(1, 1);
        z.force(0, 0);
        CHECK.due("first up, then kept", z.run(1, 0), 3);
        CHECK.due("P20 the second falls first", z.order(0), 0);
        CHECK.due("P20 changes", z.order(1), 1);
        CHECK.due("P20 nothing is kept", z.who(0), 2);
        CHECK.due("P20 bad", z.order(2), BAD);
        CHECK.due("P20 bad", z.order(-1), BAD);
        CHECK.due("P20 flaps", Check.flapping().order(0), STATE);
        CHECK.due("P20 flaps", Check.flapping().order(1), STATE);
        TrackCircuits last = Check.yard(Check.row(4, 40, 0, 1), Check.row(5, 40, 0, 1), Check.row(5, 15, 0, 1));
        last.force(2, 1);
        CHECK.due("as told", last.run(1, 2), 3);
        CHECK.due("P20 just that from the last flaps", last.order(0), STATE);
        CHECK.due("P20 just that from the last flaps", last.order(1), STATE);
        TrackCircuits told = Check.yard(Check.row(4, 40, 0, 1), Check.row(5, 40, 0, 1), Check.row(3, 15, 0, 1),
            Check.row(0, 40, 0, 1));
        told.force(1, 1);
        told.force(2, 1);
        CHECK.due("as told", told.run(1, 2), STATE);
        CHECK.due("P20 just that as told flaps", told.order(0), STATE);
        CHECK.due("P20 just that as told flaps", told.order(1), STATE);
        CHECK.due("P20 none there", new TrackCircuits().order(0), 1);
    }

    public static void main(String[] args) {
        plainOnes();
        slowOnes();
        sticks();
        codedOnes();
        backs();
        guards();
        queueOrder();
        longOne();
        flaps();
        who();
        runs();
        clears();
        order();
        CHECK.end("MomentsTest");
    }
}
