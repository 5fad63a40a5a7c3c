/** PEOPLE and DEEDS: promises 5 to 17 and what "Terms" says of these, sentence by sentence at its edges. */
public final class DeedEdgesTest {
    private static final Edges E = new Edges();
    private static final int LEAST = Edges.LEAST;
    private static final int GREATEST = Edges.GREATEST;

    /** From SPOT 1 by the near bank and the stones on 2, 4 and 6 to the far bank: more STEPS are never needed. */
    static final String FIVE_STEPS = "river 6;tide 0;person reach 2 at 1;person reach 1 at 2;person reach 1 at 4;"
            + "person reach 1 at 6;trusts:gap=2;";
    private static final String IN_A_ROW = "river 4;person reach 1 at 1;person reach 1 at 2;person reach 1 at 3;";

    /** Whether a law holds for the one PERSON on the one SPOT. */
    private static void law(String truth, int holds) {
        FordLine x = Edges.ford("river 1;person reach 1 at 1;holds : " + truth + ";");
        E.due(truth, x.holds(0, 5), holds);
    }

    /** A river of 3 SPOTS; 0 is on the near bank, 1 on SPOT 2, 2 on the far bank. */
    private static FordLine three() {
        FordLine x = Edges.ford("river 3;depth 1 2 3;person reach 2 strength 3;person reach 1 strength 7 at 2;"
                + "person reach 4 at 4;");
        x.numbers(0, 2, 1);
        return x;
    }

    private static void promise5() {
        E.says("Promise 5", "Of a PERSON, what 0: its PLACE, 1: REACH, 2: STRENGTH, 3: family, 4: PLACES to which it can "
                + "GO, as bits.");
        int[][] people = {{2, 2, 7, 1, 0b01101011}, {0, 1, 4, 1, 0b00000010}, {4, 3, 8, 2, 0b11101011},
            {7, 4, 8, 0, 0b01101011}};
        for (int p = 0; p < 4; p++) {
            for (int what = 0; what <= 4; what++) {
                int one = p;
                int asked = what;
                E.unchanged(people[p][what], "person(" + p + "," + what + ")", x -> x.person(one, asked));
            }
        }
        E.due("by as many STEPS as there can be", Edges.ford(FIVE_STEPS).person(0, 4), 0b10101001);
        FordLine stuck = Edges.ford("river 1;person reach 1;person reach 1 at 1;trusts:1=2;");
        E.due("to none", stuck.person(0, 4), 0);
        E.due("to both banks", stuck.person(1, 4), 0b101);

        E.says("Promise 5", "-2.");
        E.refusedEach(-2, "person p", (x, p) -> x.person(p, 0), -1, 4, 5, LEAST, GREATEST);
        E.refusedEach(-2, "person what", (x, what) -> x.person(3, what), -1, 5, 6, LEAST, GREATEST);
        E.in(() -> Edges.ford("river 1;person reach 1;"));
        E.refusedEach(-2, "person p", (x, p) -> x.person(p, 4), 1, 2, 3);
        E.in(FordLine::new);
        E.refusedEach(-2, "person p", (x, p) -> x.person(p, 0), 0, -1);
    }

    private static void promise6() {
        E.says("Promise 6", "Of a SPOT (1 and on), what 0: DEPTH, 1: who STANDS there (NONE).");
        int[] depths = {8, 7, 3, 4, 5, 9};
        int[] who = {-1, 0, -1, 2, -1, -1};
        for (int s = 1; s <= 6; s++) {
            int one = s;
            E.unchanged(depths[s - 1], "spot(" + s + ",0)", x -> x.spot(one, 0));
            E.unchanged(who[s - 1], "spot(" + s + ",1)", x -> x.spot(one, 1));
        }

        E.says("Promise 6", "-2.");
        E.refusedEach(-2, "spot s", (x, s) -> x.spot(s, 0), 0, 7, -1, 8, LEAST, GREATEST);
        E.refusedEach(-2, "spot s", (x, s) -> x.spot(s, 1), 0, 7, -1, 8, LEAST, GREATEST);
        E.refusedEach(-2, "spot what", (x, what) -> x.spot(6, what), -1, 2, LEAST, GREATEST);
        E.in(FordLine::new);
        E.refusedEach(-2, "spot s", (x, s) -> x.spot(s, 0), 0, 2);
        E.unchanged(0, "spot(1,0)", x -> x.spot(1, 0));
    }

    private static void promise7() {
        E.says("Promise 7", "Whether one TRUSTS another one for a STEP that far (1 to 4): 1 if so, else 0.");
        for (int gap = 1; gap <= 4; gap++) {
            int far = gap;
            E.unchanged(1, "of one family, gap " + gap, x -> x.trusts(0, 1, far));
            E.unchanged(gap < 3 ? 1 : 0, "a stone of 4, gap " + gap, x -> x.trusts(2, 1, far));
            E.unchanged(1, "a stone of 8, gap " + gap, x -> x.trusts(0, 3, far));
        }

        E.says("Promise 7", "-2: PEOPLE, both one;");
        E.refusedEach(-2, "trusts p", (x, p) -> x.trusts(p, 0, 1), -1, 4, LEAST, GREATEST, 0);
        E.refusedEach(-2, "trusts q", (x, q) -> x.trusts(3, q, 4), -1, 4, LEAST, GREATEST, 3);
        E.in(FordLine::new);
        E.refused(-2, "trusts nobody", x -> x.trusts(0, 1, 1));

        E.says("Promise 7", "-3: how far.");
        E.refusedEach(-3, "trusts gap", (x, gap) -> x.trusts(0, 1, gap), 0, 5, -1, LEAST, GREATEST);
        E.refused(-2, "PEOPLE ahead of how far", x -> x.trusts(0, 4, 0));
        E.refused(-2, "both one ahead of how far", x -> x.trusts(0, 0, 5));
    }

    private static void promise8() {
        E.says("Promise 8", "Whether a PERSON that STANDS HOLDS in WATER 0 to 9: 1 if so, else 0.");
        for (int water = 0; water <= 9; water++) {
            int w = water;
            E.unchanged(water < 7 ? 1 : 0, "0 of strength 7 in " + water, x -> x.holds(0, w));
            E.unchanged(water < 8 ? 1 : 0, "2 of strength 8 in " + water, x -> x.holds(2, w));
        }

        E.says("Promise 8", "-2; -3; -5: it doesn't STAND.");
        E.refusedEach(-2, "holds p", (x, p) -> x.holds(p, 0), -1, 4, LEAST, GREATEST);
        E.refusedEach(-3, "holds water", (x, water) -> x.holds(0, water), -1, 10, LEAST, GREATEST);
        E.refused(-5, "on the near bank", x -> x.holds(1, 0));
        E.refused(-5, "on the far bank", x -> x.holds(3, 9));
        E.refused(-2, "-2 ahead of -3", x -> x.holds(4, 10));
        E.refused(-3, "-3 ahead of -5", x -> x.holds(1, 10));
        E.refused(-3, "-3 ahead of -5", x -> x.holds(3, -1));
        for (int s = 1; s <= 6; s++) {
            E.due("on SPOT " + s, Edges.ford("river 6;person reach 1 at " + s + ";").holds(0, 0), 1);
        }
    }

    private static void promise9() {
        E.says("Promise 9", "In how few STEPS a PERSON can GO to a PLACE.");
        int[][] steps = {{1, 1, -1, 1, -1, 2, 2, -1}, {-1, 1, -1, -1, -1, -1, -1, -1}, {2, 1, -1, 1, -1, 1, 1, 1},
            {2, 2, -1, 1, -1, 1, 1, -1}};
        for (int p = 0; p < 4; p++) {
            for (int to = 0; to <= 7; to++) {
                int one = p;
                int place = to;
                E.unchanged(steps[p][to], "steps(" + p + "," + to + ")", x -> x.steps(one, place));
            }
        }
        FordLine row = Edges.ford(IN_A_ROW + "person reach 1;");
        E.due("three stones", row.steps(3, 4), 4);
        FordLine few = Edges.ford(IN_A_ROW + "person reach 2;");
        E.due("the fewest", few.steps(3, 4), 2);
        FordLine all = Edges.ford("river 3;person reach 1 at 1;person reach 1 at 2;person reach 1 at 3;person reach 1;");
        E.due("by all stones over", all.steps(3, 4), 4);
        FordLine most = Edges.ford(FIVE_STEPS);
        E.due("by the near bank and three stones", most.steps(0, 7), 5);
        E.due("and from the far bank one on", most.steps(0, 5), 4);

        E.says("Promise 9", "NONE: it can't GO there (it is there, somebody is, no STEPS lead there);");
        E.unchanged(-1, "it is there, on a SPOT", x -> x.steps(0, 2));
        E.unchanged(-1, "it is there, on the near bank", x -> x.steps(1, 0));
        E.unchanged(-1, "it is there, on the far bank", x -> x.steps(3, 7));
        E.unchanged(-1, "somebody is", x -> x.steps(0, 4));
        E.unchanged(-1, "no STEPS lead there", x -> x.steps(0, 7));
        E.unchanged(-1, "no STEPS lead there", x -> x.steps(1, 3));

        E.says("Promise 9", "-2: the PERSON, the PLACE.");
        E.refusedEach(-2, "steps p", (x, p) -> x.steps(p, 1), -1, 4, LEAST, GREATEST);
        E.refusedEach(-2, "steps to", (x, to) -> x.steps(0, to), -1, 8, 9, LEAST, GREATEST);
        E.in(DeedEdgesTest::three);
        E.refusedEach(-2, "steps to", (x, to) -> x.steps(0, to), -1, 5, 6, 7);
        E.due("the far bank is a PLACE", three().steps(0, 4), 2);
        E.due("the near bank is one", three().steps(2, 0), 1);
    }

    private static void promise10() {
        E.says("Promise 10", "To GO: from where.");
        int[][] goings = {{0, 0, 2}, {0, 6, 2}, {1, 1, 0}, {2, 0, 4}, {2, 7, 4}, {3, 0, 7}, {3, 6, 7}};
        for (int[] g : goings) {
            FordLine x = Edges.full();
            E.due("go(" + g[0] + "," + g[1] + ")", x.go(g[0], g[1]), g[2]);
            E.due("it is there", x.person(g[0], 0), g[1]);
            E.due("undone", x.undo(1), 9);
            E.due("it is back", x.person(g[0], 0), g[2]);
        }

        E.due("by as many STEPS as there can be", Edges.ford(FIVE_STEPS).go(0, 7), 1);
        FordLine told = Edges.ford(FIVE_STEPS);
        Edges.tray(told, 0, 0, 7);
        E.due("as a DEED, too", told.perform(0), 1);

        E.says("Promise 10", "-11 to -13.");
        E.refusedEach(-11, "go p", (x, p) -> x.go(p, 1), -1, 4, LEAST, GREATEST);
        E.refusedEach(-11, "go to", (x, to) -> x.go(3, to), -1, 8, 9, LEAST, GREATEST);
        E.refused(-12, "it is there", x -> x.go(0, 2));
        E.refused(-12, "it is there, on the near bank", x -> x.go(1, 0));
        E.refused(-12, "it is there, on the far bank", x -> x.go(3, 7));
        E.refused(-12, "somebody is", x -> x.go(0, 4));
        E.refused(-13, "no STEPS lead there", x -> x.go(0, 7));
        E.refused(-13, "no STEPS lead there", x -> x.go(1, 3));
        E.refused(-11, "-11 ahead of -12", x -> x.go(4, 2));
        E.refused(-12, "-12 ahead of -13", x -> x.go(1, 2));
        E.refused(-12, "-12 ahead of -13", x -> x.go(1, 4));
        E.in(FordLine::new);
        E.refused(-11, "nobody", x -> x.go(0, 1));
    }

    private static void promise11() {
        E.says("Promise 11", "A FLOOD: who is swept, as bits.");
        int[] swept = {0, 0, 0, 0, 0, 0, 0, 1, 5, 5};
        for (int water = 0; water <= 9; water++) {
            FordLine x = Edges.full();
            E.due("flood(" + water + ")", x.flood(water), swept[water]);
            E.due("who STANDS", x.count(2), 5 & ~swept[water]);
            E.due("to the near bank", x.person(0, 0), swept[water] > 0 ? 0 : 2);
            E.due("who is over", x.count(3), 8);
            E.due("undone", x.undo(1), 9);
            E.due("who STANDS", x.count(2), 5);
        }

        E.says("Promise 11", "-11: the WATER.");
        E.refusedEach(-11, "flood", FordLine::flood, -1, 10, LEAST, GREATEST);
        E.in(FordLine::new);
        E.refusedEach(-11, "flood", FordLine::flood, -1, 10);
        E.due("with nobody, too", new FordLine().flood(9), 0);
    }

    private static void promises12And13() {
        E.says("Promise 12", "To have a STRENGTH (0 to 9): what it was.");
        int[] strengths = {7, 4, 8, 8};
        for (int p = 0; p < 4; p++) {
            for (int n : new int[] {0, 9}) {
                FordLine x = Edges.full();
                E.due("strength(" + p + "," + n + ")", x.strength(p, n), strengths[p]);
                E.due("what it is", x.strength(p, 5), n);
                E.due("the others'", x.count(4), 27 - strengths[p] + 5);
                E.due("undone", x.undo(2), 8);
                E.due("as it was", x.person(p, 2), strengths[p]);
            }
        }

        E.says("Promise 12", "-11.");
        E.refusedEach(-11, "strength p", (x, p) -> x.strength(p, 5), -1, 4, LEAST, GREATEST);
        E.refusedEach(-11, "strength n", (x, n) -> x.strength(0, n), -1, 10, 16, LEAST, GREATEST);
        E.in(FordLine::new);
        E.refused(-11, "nobody", x -> x.strength(0, 5));

        E.says("Promise 13", "To have a DEPTH (0 to 9): what it was.");
        int[] depths = {8, 7, 3, 4, 5, 9};
        for (int s = 1; s <= 6; s++) {
            for (int n : new int[] {0, 9}) {
                FordLine x = Edges.full();
                E.due("depth(" + s + "," + n + ")", x.depth(s, n), depths[s - 1]);
                for (int t = 1; t <= 6; t++) E.due("what it is", x.spot(t, 0), t == s ? n : depths[t - 1]);
                E.due("undone", x.undo(1), 9);
                E.due("as it was", x.spot(s, 0), depths[s - 1]);
            }
        }

        E.says("Promise 13", "-11.");
        E.refusedEach(-11, "depth s", (x, s) -> x.depth(s, 5), 0, 7, -1, LEAST, GREATEST);
        E.refusedEach(-11, "depth n", (x, n) -> x.depth(1, n), -1, 10, 16, LEAST, GREATEST);
        E.in(FordLine::new);
        E.refusedEach(-11, "depth s", (x, s) -> x.depth(s, 5), 0, 2);
    }

    private static void promise14() {
        E.says("Promise 14", "n calls (1 to 10) are UNDONE: how many still can be.");
        for (int n = 1; n <= 10; n++) {
            FordLine x = Edges.full();
            FordLine one = Edges.full();
            E.due("undo(" + n + ")", x.undo(n), 10 - n);
            E.due("count(6)", x.count(6), 10 - n);
            for (int i = 0; i < n; i++) one.undo(1);
            for (int p = 0; p < 4; p++) E.due("as one by one", x.person(p, 0), one.person(p, 0));
            for (int p = 0; p < 4; p++) E.due("as one by one", x.person(p, 2), one.person(p, 2));
            for (int s = 1; s <= 6; s++) E.due("as one by one", x.spot(s, 0), one.spot(s, 0));
        }
        FordLine all = Edges.full();
        all.undo(10);
        E.due("what was forgotten isn't UNDONE", all.person(0, 2), 7);
        E.due("all else is", all.spot(6, 0), 6);

        E.says("Promise 14", "-3: n, more than can be.");
        E.refusedEach(-3, "undo", FordLine::undo, 0, -1, 11, LEAST, GREATEST);
        E.in(FordLine::new);
        E.refusedEach(-3, "undo", FordLine::undo, 0, 1, -1);
        for (int n = 1; n <= 9; n++) {
            int can = n;
            E.in(() -> {
                FordLine x = Edges.full();
                x.undo(10 - can);
                return x;
            });
            E.refused(-3, "undo", x -> x.undo(can + 1));
            FordLine x = Edges.full();
            x.undo(10 - n);
            E.due("as many as can be", x.undo(n), 0);
        }
    }

    private static void promise15() {
        E.says("Promise 15", "DEEDS, judged as if done, what 0: the first place that can't be (NONE), 1: why (0), 2: who "
                + "STANDS then, as bits, 3: who is on the far bank then, as bits.");
        int[] judged = {4, 1, 7, 8};
        for (int what = 0; what <= 3; what++) {
            int asked = what;
            E.unchanged(judged[what], "judge(0," + what + ")", x -> x.judge(0, asked));
        }
        long[][] trays = {{}, {27}, {2}, {7}, {1000}, {27, 0, 37}, {27, 0, 24}, {109, 11}, {109, 12}};
        int[][] answers = {{-1, 0, 5, 8}, {-1, 0, 1, 12}, {0, 2, 5, 8}, {0, 3, 5, 8}, {0, 1, 5, 8}, {2, 2, 0, 12},
            {-1, 0, 4, 8}, {-1, 0, 2, 8}, {1, 3, 0, 8}};
        for (int i = 0; i < trays.length; i++) {
            long[] deeds = trays[i];
            E.in(() -> {
                FordLine x = Edges.full();
                Edges.tray(x, 3, 2, deeds);
                return x;
            });
            for (int what = 0; what <= 3; what++) {
                int asked = what;
                E.unchanged(answers[i][what], "judge " + i + " " + what, x -> x.judge(3, asked));
            }
        }
        FordLine forty = three();
        forty.numbers(1, 1, 40);
        for (int i = 0; i < 40; i++) forty.write(1, i, 205);
        E.due("forty that can be", forty.judge(1, 0), -1);
        E.due("forty that can be", forty.judge(1, 1), 0);
        forty.write(1, 39, 400);
        E.due("the last one can't", forty.judge(1, 0), 39);
        forty.write(1, 0, 400);
        E.due("the first one", forty.judge(1, 0), 0);

        E.says("Promise 15", "-2: the TRAY, what; -6.");
        E.refusedEach(-2, "judge tray", (x, tray) -> x.judge(tray, 0), -1, 4, LEAST, GREATEST);
        E.refusedEach(-2, "judge what", (x, what) -> x.judge(0, what), -1, 4, LEAST, GREATEST);
        E.refusedEach(-6, "judge missing", (x, what) -> x.judge(2, what), 0, 3);
        E.refusedEach(-2, "-2 ahead of -6", (x, what) -> x.judge(2, what), -1, 4);
        E.in(FordLine::new);
        E.refusedEach(-6, "judge missing", (x, tray) -> x.judge(tray, 0), 0, 1, 2, 3);
    }

    private static void promise16() {
        E.says("Promise 16", "They are done, till one can't be: how many.");
        FordLine x = Edges.full();
        E.due("four of six", x.perform(0), 4);
        E.due("1 is there", x.person(1, 0), 1);
        E.due("STRENGTH", x.person(0, 2), 9);
        E.due("DEPTH", x.spot(2, 0), 1);
        E.due("those behind aren't done", x.person(0, 0), 2);
        E.due("as one call", x.undo(1), 9);
        E.due("UNDONE as a whole", x.person(1, 0), 0);
        E.due("UNDONE as a whole", x.person(0, 2), 7);
        E.due("UNDONE as a whole", x.spot(2, 0), 7);
        FordLine forty = three();
        forty.numbers(1, 1, 40);
        for (int i = 0; i < 40; i++) forty.write(1, i, 200 + i % 10);
        E.due("forty", forty.perform(1), 40);
        E.due("to the last one", forty.person(0, 2), 9);
        E.due("as one call", forty.count(6), 1);
        FordLine one = three();
        Edges.tray(one, 1, 1, 1);
        E.due("one of one", one.perform(1), 1);
        E.due("can be UNDONE", one.count(6), 1);
        E.in(() -> {
            FordLine y = Edges.full();
            Edges.tray(y, 2, 1);
            Edges.tray(y, 3, 1, 2, 11);
            return y;
        });
        E.unchanged(0, "no DEEDS", y -> y.perform(2));
        E.unchanged(0, "the first can't be", y -> y.perform(3));

        E.says("Promise 16", "-2; -6.");
        E.refusedEach(-2, "perform", FordLine::perform, -1, 4, LEAST, GREATEST);
        E.refused(-6, "perform", y -> y.perform(2));
        E.in(FordLine::new);
        E.refusedEach(-6, "perform", FordLine::perform, 0, 1, 2, 3);
    }

    private static void promise17() {
        E.says("Promise 17", "A SEASON: how many could be.");
        FordLine nobody = new FordLine();
        FordLine twin = new FordLine();
        E.due("once", nobody.season(0, 1), twin.season(0, 1));
        int some = 0;
        for (int seed = 0; seed < 30; seed++) {
            FordLine x = Edges.full();
            int could = x.season(seed, 40);
            E.right("of forty", could >= 0 && could <= 40);
            E.due("as one call", x.count(6), 10);
            some += could > 0 && could < 40 ? 1 : 0;
            int first = seed;
            if (Edges.full().season(seed, 1) == 0) E.unchanged(0, "none could be", y -> y.season(first, 1));
        }
        E.due("some could, some couldn't be", some, 30);

        E.says("Promise 17", "-3: how many times.");
        E.refusedEach(-3, "season", (x, times) -> x.season(1, times), 0, 41, -1, LEAST, GREATEST);
        E.in(FordLine::new);
        E.refusedEach(-3, "season", (x, times) -> x.season(1, times), 0, 41);
        E.right("1 and 40 are taken", Edges.full().season(1, 1) >= 0 && Edges.full().season(1, 40) >= 0);
    }

    private static void places() {
        E.says("Terms 2", "PLACES: 0: the near bank, 1 and on: SPOTS, one behind the other, the one behind the last: the "
                + "far bank.");
        for (int spots = 1; spots <= 6; spots++) {
            for (int at = 0; at <= spots + 1; at++) {
                FordLine x = Edges.ford("river " + spots + ";person reach 1 at " + at + ";");
                E.due("who STANDS at " + at + " of " + spots, x.count(2), at >= 1 && at <= spots ? 1 : 0);
                E.due("who is over at " + at + " of " + spots, x.count(3), at == spots + 1 ? 1 : 0);
                int next = (at > 0 ? 1 << at - 1 : 0) | (at <= spots ? 1 << at + 1 : 0);
                E.due("next PLACES of " + at + " of " + spots, x.person(0, 4), next);
                E.due("behind the far bank", x.steps(0, spots + 2), -2);
                E.due("ahead of the near bank", x.steps(0, -1), -2);
            }
        }

        E.says("Terms 2", "On a SPOT there is one PERSON at most (it STANDS there), on banks as many as one likes.");
        FordLine four = Edges.ford("river 1;person reach 2;person reach 2;person reach 2;person reach 2;");
        for (int p = 0; p < 4; p++) E.due("all go over", four.go(p, 2), 0);
        E.due("four on the far bank", four.count(3), 15);
        for (int p = 0; p < 3; p++) E.due("and back", four.go(p, 0), 2);
        E.due("one on the SPOT", four.go(3, 1), 2);
        for (int p = 0; p < 3; p++) E.due("no other one", four.go(p, 1), -12);
        E.due("it STANDS there", four.spot(1, 1), 3);
        E.due("it STANDS there", four.count(2), 8);
        E.due("back to the others", four.go(3, 0), 1);
        E.due("nobody STANDS", four.count(2), 0);

        E.says("Terms 2", "A STEP: from a PLACE to another one, no more apart than the REACH.");
        for (int reach = 1; reach <= 4; reach++) {
            for (int at = 0; at <= 7; at++) {
                int bits = 0;
                for (int to = 0; to <= 7; to++) bits |= to != at && Math.abs(to - at) <= reach ? 1 << to : 0;
                FordLine x = Edges.ford("river 6;person reach " + reach + " at " + at + ";");
                E.due("from " + at + " by " + reach, x.person(0, 4), bits);
            }
        }

        E.says("Terms 2", "To GO to a PLACE (a bank, or a SPOT where nobody is, not its own):");
        FordLine x = Edges.ford("river 2;person reach 4;person reach 4 at 1;person reach 4 at 3;person reach 4 at 3;");
        int[] ends = {0b1100, 0b1101, 0b0101, 0b0101};
        for (int p = 0; p < 4; p++) E.due("PERSON " + p, x.person(p, 4), ends[p]);
        E.due("where 1 was", x.go(1, 2), 1);
        E.due("nobody is there now", x.person(0, 4), 0b1010);

        E.says("Terms 2", "by STEPS; each ahead of the last one to a SPOT where another one STANDS whom it TRUSTS, or to a "
                + "bank.");
        String stones = "river 4;person reach 1;person reach 1 at 1;person reach 1 at 2;";
        E.due("by two stones", Edges.ford(stones).person(0, 4), 0b001000);
        E.due("the first not trusted", Edges.ford(stones + "trusts:stone=4;").person(0, 4), 0);
        FordLine second = Edges.ford("river 4;person reach 1;person reach 1 at 1 strength 4;person reach 1 at 2;"
                + "trusts:stone=4;");
        E.due("the second not trusted", second.person(0, 4), 0);
        E.due("a free SPOT is no stone", Edges.ford("river 4;person reach 1;person reach 1 at 2;").person(0, 4), 0b10);
        E.due("the last STEP needs no trust", Edges.ford("river 2;person reach 2;trusts:1=2;").person(0, 4), 0b0110);
        E.due("upon a stone, but not to end there", Edges.ford("river 1;person reach 2;person reach 1 at 1;").person(0, 4),
                0b100);
        String near = "river 4;person reach 2 at 1;person reach 1 at 2;";
        E.due("by the near bank", Edges.ford(near + "trusts:gap=2;").person(0, 4), 0b011001);
        E.due("by the near bank", Edges.ford(near + "trusts:gap=2;").steps(0, 4), 3);
        E.due("trusted from nowhere", Edges.ford(near + "trusts:gap=3;").person(0, 4), 0b001001);
        String far = "river 4;person reach 2 at 4;person reach 1 at 3;";
        E.due("by the far bank", Edges.ford(far + "trusts:gap=2;").person(0, 4), 0b100110);
        E.due("by the far bank", Edges.ford(far + "trusts:gap=2;").steps(0, 1), 3);
        E.due("by a bank none has to be trusted", Edges.ford(near + "trusts:1=2;").person(0, 4), 0b001001);
        E.due("back upon stones", Edges.ford("river 6;person reach 2 at 7;person reach 1 at 5;person reach 1 at 3;"
                + "person reach 1 at 1;").steps(0, 0), 4);
        E.due("who is on a bank is no stone", Edges.ford("river 3;person reach 1 at 3;person reach 1 at 4;").person(0, 4),
                0b10100);
    }

    private static void trust() {
        E.says("Terms 2", "It TRUSTS another one for a STEP, if the law trusts holds (without one: always):");
        FordLine none = Edges.ford("river 2;person reach 1 strength 0;person reach 1 strength 0 family 9;");
        for (int gap = 1; gap <= 4; gap++) E.due("without one", none.trusts(0, 1, gap), 1);
        FordLine never = Edges.ford("river 2;person reach 1;person reach 1;trusts:1=2;");
        for (int gap = 1; gap <= 4; gap++) E.due("never", never.trusts(0, 1, gap), 0);
        FordLine stone = Edges.ford("river 2;person reach 1;person reach 1 at 1;trusts:gap=1;");
        E.due("upon it", stone.go(0, 2), 0);

        E.says("Terms 2", "who, strength, family: its number, strength, family, theirs, stone: family, strength of the "
                + "other one, gap: how far the STEP is.");
        String[] words = {"who", "strength", "family", "theirs", "stone", "gap"};
        int[] values = {2, 3, 4, 5, 6, 2};
        for (int i = 0; i < words.length; i++) {
            for (int off = -1; off <= 1; off++) {
                FordLine x = Edges.ford("river 2;person reach 1 strength 6 family 5;person reach 1;"
                        + "person reach 1 strength 3 family 4;trusts:" + words[i] + "=" + (values[i] + off) + ";");
                E.due(words[i] + "=" + (values[i] + off), x.trusts(2, 0, 2), off == 0 ? 1 : 0);
            }
        }
        FordLine x = Edges.ford("river 6;person reach 4;person reach 1 at 3;trusts:gap=3;");
        E.due("how far from the bank", x.person(0, 4), 0b11110110);
        FordLine y = Edges.ford("river 6;person reach 4 at 1;person reach 1 at 3;trusts:gap=3;");
        E.due("by the bank, how far from there", y.steps(0, 7), 3);
        FordLine now = Edges.ford("river 2;person reach 1 strength 0;person reach 1 strength 0;trusts:strength=9 and stone=8;");
        now.strength(0, 9);
        E.due("of the other one as it is", now.trusts(0, 1, 1), 0);
        now.strength(1, 8);
        E.due("as both are now", now.trusts(0, 1, 1), 1);
        E.due("the other way", now.trusts(1, 0, 1), 0);
    }

    private static void floods() {
        E.says("Terms 2", "A FLOOD of WATER 0 to 9:");
        FordLine x = Edges.ford("river 1;person reach 1 strength 9 at 1;holds:water>0 and water<9;");
        E.due("0", x.swept(0), 1);
        E.due("1", x.swept(1), 0);
        E.due("8", x.swept(8), 0);
        E.due("9", x.swept(9), 1);
        E.due("10", x.flood(10), -11);
        E.due("-1", x.flood(-1), -11);
        E.due("0 sweeps", x.flood(0), 1);
        E.due("UNDONE", x.undo(1), 0);
        E.due("9 sweeps", x.flood(9), 1);

        E.says("Terms 2", "all who STAND and don't HOLD are swept to the near bank, all at once, as all was ahead; then "
                + "again, till nobody is.");
        FordLine odd = Edges.ford(IN_A_ROW + "holds:not beside=1;");
        E.due("both ends at once, then the one between holds", odd.flood(0), 0b101);
        E.due("one look", Edges.ford(IN_A_ROW + "holds:not beside=1;").looks(0), 1);
        FordLine ends = Edges.ford(IN_A_ROW + "holds:beside=2;");
        E.due("the ends, then the one between", ends.looks(0), 2);
        E.due("all", ends.flood(0), 0b111);
        for (int p = 0; p < 3; p++) E.due("to the near bank", ends.person(p, 0), 0);
        FordLine chain = Edges.ford("river 4;person reach 1 at 1;person reach 1 at 2;person reach 1 at 3;"
                + "person reach 1 at 4;holds:who<3 and [beside=2 or who=0 and beside=1];");
        E.due("one by one", chain.looks(5), 4);
        E.due("all four", chain.flood(5), 15);
        E.due("nobody STANDS", chain.count(2), 0);
        FordLine stop = Edges.ford("river 4;person reach 1 at 1;person reach 1 at 2;person reach 1 at 3;"
                + "person reach 1 at 4;holds:who<3 and [beside=2 or who<2 and beside=1];");
        E.due("till nobody is", stop.flood(5), 0b1100);
        E.due("two are left", stop.count(2), 0b0011);
        FordLine banks = Edges.ford("river 1;person reach 1;person reach 1 at 1;person reach 1 at 2;holds:1=2;");
        E.due("who is on a bank isn't swept", banks.flood(9), 0b010);
        E.due("nor from the far bank", banks.person(2, 0), 2);

        E.says("Terms 2", "One HOLDS, if the law holds holds (without one: if the WATER isn't above its strength):");
        for (int strength = 0; strength <= 9; strength++) {
            FordLine bare = Edges.ford("river 1;person reach 1 strength " + strength + " at 1;");
            for (int water = 0; water <= 9; water++) E.due("without one", bare.holds(0, water), water <= strength ? 1 : 0);
        }
        FordLine even = Edges.ford("river 1;person reach 1 strength 0 at 1;holds:water=9;");
        E.due("by the law alone", even.holds(0, 9), 1);
        E.due("by the law alone", even.holds(0, 0), 0);

        E.says("Terms 2", "who, strength, spot: its number, strength, PLACE, depth: of its SPOT,");
        String[] words = {"who", "strength", "spot", "depth", "beside", "water"};
        int[] values = {1, 6, 3, 8, 1, 4};
        for (int i = 0; i < words.length; i++) {
            for (int off = -1; off <= 1; off++) {
                FordLine y = Edges.ford("river 3;depth 7 2 8;person reach 1 at 2;person reach 1 strength 6 at 3;holds:"
                        + words[i] + "+1=" + (values[i] + off + 1) + ";");
                E.due(words[i] + " " + (values[i] + off), y.holds(1, 4), off == 0 ? 1 : 0);
            }
        }
        FordLine deep = Edges.ford("river 3;depth 7 2 8;person reach 1 at 2;holds:depth=water;");
        deep.depth(2, 9);
        E.due("as it is now", deep.holds(0, 9), 1);
        deep.go(0, 1);
        E.due("of the SPOT where it is now", deep.holds(0, 7), 1);
    }

    private static void beside() {
        E.says("Terms 2", "beside: on how many of the two next PLACES others STAND (banks: none), water.");
        int[][] rows = {{1, 2, 3, 4, 1, 2, 2, 1}, {1, 3, 5, 6, 0, 0, 1, 1}, {2, 4, 6, 7, 0, 0, 0, -1},
            {1, 2, 5, 6, 1, 1, 1, 1}, {1, 6, 0, 7, 0, 0, -1, -1}, {6, 7, 7, 5, 1, -1, -1, 1}, {1, 0, 0, 2, 1, -1, -1, 1}};
        for (int[] row : rows) {
            FordLine x = Edges.ford("river 6;person reach 1 at " + row[0] + ";person reach 1 at " + row[1]
                    + ";person reach 1 at " + row[2] + ";person reach 1 at " + row[3] + ";holds:beside=water;");
            for (int p = 0; p < 4; p++) {
                for (int water = 0; water <= 3; water++) {
                    int due = row[4 + p] < 0 ? -5 : row[4 + p] == water ? 1 : 0;
                    E.due("PERSON " + p + " at " + row[p] + ", beside " + water, x.holds(p, water), due);
                }
            }
        }
        FordLine one = Edges.ford("river 1;person reach 1;person reach 1 at 1;person reach 1 at 2;holds:beside=0;");
        E.due("between two banks with others", one.holds(1, 0), 1);
    }

    private static void kept() {
        E.says("Terms 2", "Each + - * is kept from -1,000,000 to 1,000,000.");
        String m = "(999+1)*(999+1)";
        String less = "999*999+999+999";
        law(m + ">" + less, 1);
        law(m + "-1=" + less, 1);
        law(m + "+1=" + m, 1);
        law(m + "+1-1<" + m, 1);
        law(m + "+" + m + "=" + m, 1);
        law(m + "-(0-1)=" + m, 1);
        law(m + "-(0-" + m + ")=" + m, 1);
        law("0-" + m + "-1=0-" + m, 1);
        law("0-" + m + "-1+1>0-" + m, 1);
        law("0-" + m + "<0-999*999-999-999", 1);
        law("0-" + m + "+(0-1)=0-" + m, 1);
        law("0-" + m + "-" + m + "+" + m + "=0", 1);
        law(m + "*999=" + m, 1);
        law("(" + m + ")*(" + m + ")=" + m, 1);
        law("(0-" + m + ")*(" + m + ")=0-" + m, 1);
        law("(0-" + m + ")*(0-" + m + ")=" + m, 1);
        law("(0-" + m + ")*2=0-" + m, 1);
        law("(0-" + m + ")*(0-2)=" + m, 1);
        law("999*999*2=" + m, 1);
        law("(999+1)*(999+2)=" + m, 1);
        law("(999+1)*(999+2)-999*999=999+999+1", 1);
        law("(0-999-1)*(999+2)+999*999=0-999-999-1", 1);
    }

    private static void deeds() {
        E.says("Terms 2", "To have a STRENGTH, a DEPTH to be other.");
        FordLine x = three();
        E.due("STRENGTH", x.strength(0, 8), 3);
        E.due("is other", x.person(0, 2), 8);
        E.due("those of the others aren't", x.person(1, 2), 7);
        E.due("DEPTH", x.depth(2, 9), 2);
        E.due("is other", x.spot(2, 0), 9);
        E.due("those of the others aren't", x.spot(1, 0) * 10 + x.spot(3, 0), 13);
        E.due("the same one again is done, too", x.strength(0, 8), 8);
        E.due("and can be UNDONE", x.count(6), 3);

        E.says("Terms 2", "Why not: 1 no such PERSON, PLACE, SPOT, number.");
        why(1, 30, 31, 99, 5, 9, 15, 230, 299, 300, 309, 340, 399, 110, -1, 400);
        E.in(DeedEdgesTest::three);
        E.refused(-11, "no such PERSON", y -> y.go(3, 1));
        E.refused(-11, "no such PLACE", y -> y.go(0, 5));
        E.refused(-11, "no such number", y -> y.flood(10));
        E.refused(-11, "no such number", y -> y.strength(0, 10));
        E.refused(-11, "no such PERSON", y -> y.strength(3, 1));
        E.refused(-11, "no such SPOT", y -> y.depth(4, 1));
        E.refused(-11, "no such SPOT", y -> y.depth(0, 1));

        E.says("Terms 2", "2 it is there, somebody is (a SPOT).");
        why(2, 0, 12, 24, 2, 22);
        why(0, 4, 20);
        E.refused(-12, "it is there", y -> y.go(0, 2));

        E.says("Terms 2", "3 no STEPS lead there.");
        why(3, 10, 14);
        why(0, 11, 13, 3);
        E.refused(-13, "no STEPS", y -> y.go(1, 5));
    }

    /** Why each of some DEEDS can't be in the river of three. */
    private static void why(int why, int... deeds) {
        for (int deed : deeds) {
            FordLine x = three();
            x.write(0, 0, deed);
            E.due("why not " + deed, x.judge(0, 1), why);
        }
    }

    /** A DEED alone in a TRAY does what a call does, or can't be. */
    private static void deed(long v, int answer, FordLine twin) {
        FordLine x = three();
        x.numbers(0, 3, 1);
        x.write(0, 0, v);
        E.due("why not " + v, x.judge(0, 1), answer < 0 ? -10 - answer : 0);
        E.due("place of " + v, x.judge(0, 0), answer < 0 ? 0 : -1);
        E.due("perform " + v, x.perform(0), answer < 0 ? 0 : 1);
        E.due("UNDONE behind " + v, x.count(6), answer < 0 ? 0 : 1);
        for (int p = 0; p < 3; p++) E.due("PLACE behind " + v, x.person(p, 0), twin.person(p, 0));
        for (int p = 0; p < 3; p++) E.due("STRENGTH behind " + v, x.person(p, 2), twin.person(p, 2));
        for (int s = 1; s <= 3; s++) E.due("DEPTH behind " + v, x.spot(s, 0), twin.spot(s, 0));
    }

    private static void deedsInTrays() {
        E.says("Terms 2", "DEEDS in a TRAY: 0 to 99: PERSON v by 10 GOES to PLACE v modulo 10;");
        for (int v = 0; v <= 99; v++) {
            FordLine twin = three();
            deed(v, twin.go(v / 10, v % 10), twin);
        }

        E.says("Terms 2", "100 to 109: a FLOOD of WATER v - 100;");
        for (int v = 100; v <= 109; v++) {
            FordLine twin = three();
            deed(v, twin.flood(v - 100), twin);
        }

        E.says("Terms 2", "200 to 299: PERSON (v - 200) by 10 has STRENGTH v modulo 10;");
        for (int v = 200; v <= 299; v++) {
            FordLine twin = three();
            deed(v, twin.strength((v - 200) / 10, v % 10), twin);
        }

        E.says("Terms 2", "300 to 399: SPOT (v - 300) by 10 has DEPTH v modulo 10;");
        for (int v = 300; v <= 399; v++) {
            FordLine twin = three();
            deed(v, twin.depth((v - 300) / 10, v % 10), twin);
        }

        E.says("Terms 2", "others: 1.");
        for (int v = 110; v <= 199; v++) deed(v, -11, three());
        for (int v = 400; v <= 520; v++) deed(v, -11, three());
        for (int v = -120; v <= -1; v++) deed(v, -11, three());
        for (long v : new long[] {LEAST, GREATEST, Long.MIN_VALUE, Long.MAX_VALUE, (1L << 32) + 1, (1L << 32) + 101,
            (1L << 40) + 205, -(1L << 32) + 1, 1001, 65537, 1L << 63 | 1}) {
            deed(v, -11, three());
        }
    }

    private static void undone() {
        E.says("Terms 2", "Calls that did some can be UNDONE each as a whole, the latest first,");
        FordLine x = three();
        Edges.tray(x, 0, 1, 205, 311, 3);
        E.due("go", x.go(0, 1), 0);
        E.due("flood that sweeps nobody", x.flood(0), 0);
        E.due("flood", x.flood(9), 3);
        E.due("strength", x.strength(2, 1), 5);
        E.due("the same strength", x.strength(2, 1), 1);
        E.due("depth", x.depth(3, 4), 3);
        E.due("perform", x.perform(0), 2);
        E.right("season", x.season(3, 40) > 0);
        E.due("eight calls", x.count(6), 8);
        E.due("season", x.undo(1), 7);
        E.due("as the TRAY left it", x.person(0, 2) * 10 + x.spot(1, 0), 51);
        E.due("perform", x.undo(1), 6);
        E.due("all of it", x.person(0, 2) * 10 + x.spot(1, 0), 31);
        E.due("depth", x.undo(1), 5);
        E.due("depth", x.spot(3, 0), 3);
        E.due("strengths", x.undo(2), 3);
        E.due("strength", x.person(2, 2), 5);
        E.due("flood", x.undo(1), 2);
        E.due("who STANDS", x.count(2), 3);
        E.due("both first", x.undo(2), 0);
        E.due("as at first", x.count(2), 2);
        FordLine asked = three();
        asked.go(0, 9);
        asked.go(0, 0);
        asked.flood(10);
        asked.strength(0, 10);
        asked.depth(0, 1);
        asked.season(1, 0);
        asked.perform(3);
        asked.numbers(1, 1, 2);
        asked.perform(1);
        asked.write(1, 0, 1);
        asked.lists(1, 7);
        asked.judge(1, 0);
        asked.image(0);
        asked.feed(1, 1, 1, 1, 1);
        E.due("these did none", asked.count(6), 0);

        E.says("Terms 2", "10 at most (eldest are forgotten):");
        for (int calls = 9; calls <= 25; calls++) {
            FordLine y = three();
            for (int i = 0; i < calls; i++) y.strength(i % 3, i % 10);
            FordLine then = three();
            for (int i = 0; i < calls - 10; i++) then.strength(i % 3, i % 10);
            int can = Math.min(calls, 10);
            E.due("how many of " + calls, y.count(6), can);
            E.due("one more", y.undo(can + 1), -3);
            E.due("all of them", y.undo(can), 0);
            for (int p = 0; p < 3; p++) E.due("the eldest are done for good", y.person(p, 2), then.person(p, 2));
        }

        E.says("Terms 2", "PLACES, STRENGTHS, DEPTHS.");
        FordLine z = three();
        z.go(0, 1);
        z.strength(0, 9);
        z.depth(1, 9);
        z.numbers(1, 0, 3);
        z.write(1, 0, 104);
        z.image(1);
        z.feed(1, 1, 1, 1, 1);
        E.due("undo", z.undo(3), 0);
        E.due("PLACE", z.person(0, 0), 0);
        E.due("STRENGTH", z.person(0, 2), 3);
        E.due("DEPTH", z.spot(1, 0), 1);
        E.due("not the tape", z.count(7), 20);
        E.due("not the tray", z.write(1, 2, 1), 1);
        E.due("nor its numbers", z.judge(1, 0), 1);
        E.due("not the image", z.restore(1), 0);
        E.due("with what was done then", z.person(0, 2), 9);
    }

    public static void main(String[] args) {
        promise5();
        promise6();
        promise7();
        promise8();
        promise9();
        promise10();
        promise11();
        promises12And13();
        promise14();
        promise15();
        promise16();
        promise17();
        places();
        trust();
        floods();
        beside();
        kept();
        deeds();
        deedsInTrays();
        undone();
        E.end(Edges.promises(5, 17, "Terms 2"));
    }
}
