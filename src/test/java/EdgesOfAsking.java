/** Calls that only ask: nothing is kept of them, whether they answer or (a yard that FLAPS) can't. */
final class EdgesOfAsking {
    private EdgesOfAsking() {
    }

    /** On a yard that is full, one that FLAPS and one without SECTIONS. */
    private static void keeps(Edges e, Edges.Call call) {
        e.keeps("full", Edges::full, call);
        e.keeps("flapping", Edges::flapping, call);
        e.keeps("no sections", Edges::bare, call);
    }

    /** For each value of one argument. */
    private static void keepsAll(Edges e, int most, Edges.Asked call) {
        for (int v = 0; v <= most; v++) {
            int given = v;
            keeps(e, x -> call.on(x, given));
        }
    }

    static void p05KeepsNothing(Edges e) {
        keepsAll(e, 8, (x, v) -> x.of(2, v));
    }

    static void p06KeepsNothing(Edges e) {
        keepsAll(e, 5, (x, v) -> x.taken(2, v));
    }

    static void p12KeepsNothing(Edges e) {
        keepsAll(e, 2, (x, v) -> x.faultOf(5, v));
    }

    static void p15KeepsNothing(Edges e) {
        keepsAll(e, 2, (x, v) -> x.log(v - 1));
    }

    static void p16KeepsNothing(Edges e) {
        keepsAll(e, 4, (x, v) -> x.who(v));
    }

    static void p17KeepsNothing(Edges e) {
        keepsAll(e, 7, (x, v) -> x.aspect(v));
    }

    static void p18KeepsNothing(Edges e) {
        keepsAll(e, 3, (x, v) -> x.run(20, v));
    }

    static void p19KeepsNothing(Edges e) {
        keepsAll(e, 7, (x, v) -> x.clears(v));
    }

    static void p20KeepsNothing(Edges e) {
        keepsAll(e, 1, (x, v) -> x.order(v));
    }

    static void p21KeepsNothing(Edges e) {
        keepsAll(e, 7, (x, v) -> x.seen(v));
    }

    static void p22KeepsNothing(Edges e) {
        keepsAll(e, 1, (x, v) -> x.bound(v));
    }

    static void p23KeepsNothing(Edges e) {
        keepsAll(e, 1, (x, v) -> x.proof(v));
    }

    static void p24KeepsNothing(Edges e) {
        keepsAll(e, 1, (x, v) -> x.pick(v));
    }

    static void p25KeepsNothing(Edges e) {
        keeps(e, TrackCircuits::fix);
    }

    static void p26KeepsNothing(Edges e) {
        keepsAll(e, 9, (x, v) -> x.drawn(v, v));
    }

    static void p27KeepsNothing(Edges e) {
        keepsAll(e, 1, (x, v) -> x.chance(11, 20, 9, 1, v));
    }

    static void p28KeepsNothing(Edges e) {
        keepsAll(e, 3, (x, v) -> x.tells(v, 0, 0) + x.tells(v, 2, 1));
    }

    static void p29KeepsAllButTheSheet(Edges e) {
        TrackCircuits x = Edges.full();
        x.film(3, 7, 10);
        x.sheet(3, -1, 0);
        e.same("film", Shown.state(x), Shown.state(Edges.full()));
        TrackCircuits y = Edges.full();
        y.film(3, 7, 10);
        y.sheet(3, -1, 0);
        e.same("film", Shown.sheets(y), Shown.sheets(Edges.full()));
    }

    static void p35KeepsNothing(Edges e) {
        keepsAll(e, 4, (x, v) -> x.count(v));
    }
}
