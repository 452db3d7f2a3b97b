/** Promises 21 to 25: breaks, leaks, the proof, the fault to mend first. */
public final class ProofTest {
    private static final int BAD = TrackCircuits.BAD, NONE = TrackCircuits.NONE;
    private static final Check CHECK = new Check();

    private static void seen() {
        TrackCircuits x = Check.yard(Check.row(0, 99, 9, 9), Check.row(0, 50, 0, 1));
        x.rule(2, 9);
        x.moment();
        // half of LEAK 72 is 36: above PICK
        CHECK.due("P21 not seen", x.seen(0), 0);
        CHECK.due("P21 seen", x.seen(1), 1);
        CHECK.due("P21 nothing is kept", x.count(1), 0);
        CHECK.due("P21 nothing is kept", x.who(0), 3);
        CHECK.due("P21 bad", x.seen(2), BAD);
        CHECK.due("P21 bad", x.seen(-1), BAD);
        for (int i = 0; i < 6; i++) {
            x.fault(2, 0);
        }
        x.rule(2, 0);
        CHECK.due("P21 also if there are 6, behind them", x.seen(0), 1);
        CHECK.due("P21 flaps: no", calmedByThird().seen(2), 0);
        CHECK.due("P21 a break calms it: seen", Check.flapping().seen(0), 1);
        CHECK.due("P21 UP by HOLD", heldByLeak().seen(0), 0);
    }

    /** The third, UP, keeps the pair calm; a break there makes it flap. */
    private static TrackCircuits calmedByThird() {
        TrackCircuits x = Check.flapping();
        x.section(0, 40, 0, 1);
        CHECK.due("calm", x.moment(), 4);
        return x;
    }

    /** UP, and half of its LEAK, 15, is HOLD or more. */
    private static TrackCircuits heldByLeak() {
        TrackCircuits x = Check.yard(Check.row(0, 99, 9, 9));
        x.rule(2, 4);
        x.moment();
        return x;
    }

    /** Two GUARDS, the second UP, and a TRAIN: both are UP behind a MOMENT, but DOWN if asked from the last. */
    private static TrackCircuits fallsFromLast() {
        TrackCircuits x = Check.yard(Check.row(5, 40, 0, 1), Check.row(5, 40, 0, 1), Check.row(0, 40, 0, 1));
        x.force(1, 1);
        x.train(2, 1);
        return x;
    }

    private static void bound() {
        TrackCircuits x = Check.yard(Check.row(0, 50, 9, 9), Check.row(0, 90, 0, 1));
        // LEAK by WEATHER 3 is 24, by 4 it is 32: CURRENTS 26, 18
        CHECK.due("P22 the greatest by which none is wrong", x.bound(0), 3);
        x.force(0, 1);
        // by HOLD: LEAK by 4 is 32, by 5 it is 40: CURRENTS 18, 10; by 6 it is 48: 2
        CHECK.due("P22 from relays as they are", x.bound(0), 5);
        // half of LEAK: by 2 it is 8, by 3 it is 12, HOLD or more
        CHECK.due("P22 the least by which a break isn't seen", x.bound(1), 3);
        x.force(0, 0);
        // by 5 it is 20
        CHECK.due("P22 by PICK", x.bound(1), 5);
        x.rule(0, 37);
        CHECK.due("P22 none", x.bound(1), NONE);
        x.rule(0, 0);
        CHECK.due("P22 by any", x.bound(0), 9);
        CHECK.due("P22 by none", x.bound(1), 0);
        // half of 72 is 36, of 64 it is 32
        x.rule(0, 36);
        CHECK.due("P22 just by the greatest", x.bound(1), 9);
        x.rule(0, 50);
        CHECK.due("P22 just by the least", x.bound(0), 0);
        x.rule(0, 91);
        CHECK.due("P22 wrong by all", x.bound(0), NONE);
        x.train(0, 1);
        x.train(1, 1);
        CHECK.due("P22 troubled ones aren't wrong", x.bound(0), 9);
        CHECK.due("P22 weather stays", x.rule(2, 1), 1);
        CHECK.due("P22 bad", x.bound(2), BAD);
        CHECK.due("P22 bad", x.bound(-1), BAD);
        CHECK.due("P22 no sections", new TrackCircuits().bound(0), 9);
        CHECK.due("P22 no sections", new TrackCircuits().bound(1), NONE);
        CHECK.due("P22 in the order as told", fallsFromLast().bound(0), 9);
        CHECK.due("P22 flaps by all", Check.flapping().bound(0), NONE);
        CHECK.due("P22 flaps by all", Check.flapping().bound(1), NONE);
    }

    /** One section, UP, whose RUST under a TRAIN leaves 20. */
    private static TrackCircuits rusty() {
        TrackCircuits x = Check.yard(Check.row(0, 80, 0, 1));
        x.moment();
        return x;
    }

    private static void proof() {
        TrackCircuits x = rusty();
        // f 4 is RUST at 0, t 1 a TRAIN there
        CHECK.due("P23 one fails", x.proof(0), 1);
        CHECK.due("P23 the first", x.proof(1), 401);
        CHECK.due("P23 nothing is kept", x.count(1), 0);
        CHECK.due("P23 nothing is kept", x.count(3), 0);
        x.train(0, 1);
        CHECK.due("P23 one that stands stays: t 0 and t 1", x.proof(0), 2);
        CHECK.due("P23 the first", x.proof(1), 400);
        x.fault(3, 0);
        // there all but the BREAK and the WEAK (10 is HOLD): none, CROSS, RUST, WEAK; each by t 0, 1
        CHECK.due("P23 with a rust that is there", x.proof(0), 8);
        CHECK.due("P23 the first", x.proof(1), 0);
        x.force(0, 0);
        CHECK.due("P23 DOWN: the WEAK is below PICK", x.proof(0), 6);
        TrackCircuits safe = Check.plain(1);
        CHECK.due("P23 none fails", safe.proof(0), 0);
        CHECK.due("P23 none", safe.proof(1), NONE);
        TrackCircuits two = Check.yard(Check.row(0, 40, 0, 1), Check.row(0, 90, 0, 1));
        // RUST at 1 with a TRAIN at 1: f 1 + 4 + 3, t 2
        CHECK.due("P23 by f, then t", two.proof(1), 802);
        CHECK.due("P23 how many", two.proof(0), 1);
        two.fault(3, 0);
        // CROSS at 0 brings 45: a quarter of 85 is 21
        CHECK.due("P23 a CROSS in thought has caught", two.proof(1), 301);
        TrackCircuits full = rusty();
        for (int i = 0; i < 6; i++) {
            full.fault(2, 0);
        }
        CHECK.due("P23 one more also if there are 6", full.proof(1), 401);
        CHECK.due("P23 flaps", Check.flapping().proof(1), 0);
        CHECK.due("P23 no sections", new TrackCircuits().proof(0), 0);
        CHECK.due("P23 no sections", new TrackCircuits().proof(1), NONE);
        CHECK.due("P23 bad", full.proof(2), BAD);
        CHECK.due("P23 bad", full.proof(-1), BAD);
    }

    private static void pick() {
        TrackCircuits x = rusty();
        // UP and 20 is above HOLD, whatever PICK
        CHECK.due("P24 none", x.pick(0), NONE);
        CHECK.due("P24 UP: it holds by all", x.pick(1), 99);
        x.rule(1, 21);
        CHECK.due("P24 the least", x.pick(0), 21);
        CHECK.due("P24 rule stays", x.rule(0, 20), 20);
        x.force(0, 0);
        CHECK.due("P24 the greatest", x.pick(1), 80);
        x.fault(1, 0);
        CHECK.due("P24 with a weak", x.pick(1), 40);
        CHECK.due("P24 the least with a weak", x.pick(0), 11);
        x.rule(1, 0);
        x.force(0, 1);
        CHECK.due("P24 none", x.pick(0), NONE);
        x.train(0, 1);
        CHECK.due("P24 none is wrong", x.pick(1), 99);
        TrackCircuits weak = Check.yard(Check.row(0, 40, 0, 1), Check.row(2, 30, 0, 1));
        CHECK.due("P24 by all sections", weak.pick(1), 30);
        CHECK.due("P24 in the order as told", fallsFromLast().pick(1), 40);
        TrackCircuits dry = Check.yard(Check.row(0, 5, 9, 9));
        CHECK.due("P24 a current of 0", dry.pick(1), 0);
        TrackCircuits much = Check.yard(Check.row(0, 99, 0, 1), Check.row(0, 99, 0, 1));
        for (int i = 0; i < 6; i++) {
            much.fault(2, 0);
        }
        // with a RUST a quarter of 393 is 98
        CHECK.due("P24 just the greatest", much.pick(0), 99);
        TrackCircuits slow = Check.yard(Check.row(1, 40, 0, 1));
        CHECK.due("P24 wrong by all", slow.pick(1), NONE);
        CHECK.due("P24 flaps till 41", Check.flapping().pick(0), 41);
        CHECK.due("P24 flaps or wrong", Check.flapping().pick(1), NONE);
        CHECK.due("P24 no sections", new TrackCircuits().pick(0), 0);
        CHECK.due("P24 no sections", new TrackCircuits().pick(1), 99);
        CHECK.due("P24 bad", x.pick(2), BAD);
        CHECK.due("P24 bad", x.pick(-1), BAD);
    }

    private static void fix() {
        CHECK.due("P25 no faults", Check.plain(2).fix(), NONE);
        TrackCircuits x = Check.plain(3);
        x.fault(3, 0);
        CHECK.due("P25 none is better", x.fix(), NONE);
        x.fault(1, 1);
        x.fault(1, 1);
        // 12 is below PICK: without one of both it is 25
        CHECK.due("P25 of like ones the first", x.fix(), 1);
        CHECK.due("P25 nothing is kept", x.count(1), 3);
        x.fault(1, 1);
        CHECK.due("P25 one isn't enough", x.fix(), NONE);
        TrackCircuits y = Check.yard(Check.row(0, 50, 0, 1), Check.row(0, 30, 0, 1), Check.row(2, 30, 0, 1));
        y.fault(1, 0);
        y.fault(1, 0);
        y.fault(1, 1);
        // without 0 or 1 one is UP more, without 2 two are
        CHECK.due("P25 the fewest", y.fix(), 2);
        TrackCircuits broken = Check.plain(1);
        broken.fault(0, 0);
        CHECK.due("P25 a break that is seen is no trouble", broken.fix(), NONE);
        broken.rule(0, 0);
        CHECK.due("P25 an unsafe one", broken.fix(), 0);
        TrackCircuits flaps = Check.flapping();
        flaps.section(0, 40, 0, 1);
        flaps.fault(3, 0);
        flaps.fault(0, 2);
        flaps.fault(3, 1);
        CHECK.due("flaps by the break at the third", flaps.moment(), TrackCircuits.STATE);
        CHECK.due("P25 what flaps counts 16", flaps.fix(), 1);
        TrackCircuits calm = Check.flapping();
        calm.fault(0, 0);
        CHECK.due("P25 without it flaps", calm.fix(), NONE);
        CHECK.due("P25 no sections", new TrackCircuits().fix(), NONE);
    }

    public static void main(String[] args) {
        seen();
        bound();
        proof();
        pick();
        fix();
        CHECK.end("ProofTest");
    }
}
