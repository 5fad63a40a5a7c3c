import java.util.function.ToLongFunction;

/** TRAYS, IMAGES, refused calls: promises 41 to 46 and what "Terms" says of these, sentence by sentence at its edges. */
public final class TrayEdgesTest {
    private static final Edges E = new Edges();
    private static final int LEAST = Edges.LEAST;
    private static final int GREATEST = Edges.GREATEST;

    private static void promise41() {
        E.says("Promise 41", "A TRAY has n numbers of a sort, all 0 (in place of another one): 0.");
        for (int tray = 0; tray <= 3; tray++) {
            for (int sort = 0; sort <= 3; sort++) {
                for (int n : new int[] {0, 1, 40}) {
                    FordLine x = Edges.full();
                    E.due("numbers(" + tray + "," + sort + "," + n + ")", x.numbers(tray, sort, n), 0);
                    E.due("no number behind", x.write(tray, n, 1), -7);
                    if (n > 0) E.due("the last one, cut", x.write(tray, n - 1, 1L << (8 << sort)), sort == 3 ? 1 : 0);
                    if (n > 0) E.due("uncut", x.write(tray, n - 1, 1L << (8 << sort) - 2), 1L << (8 << sort) - 2);
                    for (int other = 0; other <= 3; other++) {
                        int due = other == 2 ? -6 : 40;
                        if (other != tray) E.due("other TRAYS stay", x.write(other, 40, 1) == -6 ? -6 : 40, due);
                    }
                }
            }
        }
        FordLine x = Edges.ford("river 1;person reach 1;");
        for (int zero = 0; zero < 40; zero += 13) {
            for (int round = 0; round < 2; round++) {
                E.due("in place of another one", x.numbers(0, 1, 40), 0);
                for (int i = 0; i < 40; i++) if (round == 0 || i != zero) x.write(0, i, 100);
                E.due("0: it is there", x.judge(0, 0), round == 0 ? -1 : zero);
                E.due("0: it is there", x.judge(0, 1), round == 0 ? 0 : 2);
            }
        }
        E.due("a TRAY of none in place of it", x.numbers(0, 1, 0), 0);
        E.due("nothing in it", x.judge(0, 0), -1);
        E.due("nothing in it", x.write(0, 0, 1), -7);

        E.says("Promise 41", "-2: no such TRAY, sort;");
        E.refusedEach(-2, "numbers tray", (y, tray) -> y.numbers(tray, 0, 1), -1, 4, LEAST, GREATEST);
        E.refusedEach(-2, "numbers sort", (y, sort) -> y.numbers(0, sort, 1), -1, 4, LEAST, GREATEST);
        E.refusedEach(-2, "numbers sort of a missing one", (y, sort) -> y.numbers(2, sort, 1), -1, 4);
        E.refused(-2, "-2 ahead of -3", y -> y.numbers(4, 0, 41));
        E.refused(-2, "-2 ahead of -3", y -> y.numbers(0, 4, -1));

        E.says("Promise 41", "-3, and the TRAY stays: n is below 0 or above 40.");
        for (int tray = 0; tray <= 3; tray++) {
            int one = tray;
            E.refusedEach(-3, "numbers n", (y, n) -> y.numbers(one, 3 - one, n), -1, 41, LEAST, GREATEST);
        }
    }

    private static void promise42() {
        E.says("Promise 42", "Number i of a TRAY is v, cut to its sort: as it is there.");
        for (int sort = 0; sort <= 3; sort++) {
            int bits = 8 << sort;
            long top = Long.MAX_VALUE >> 64 - bits;
            FordLine x = new FordLine();
            x.numbers(3, sort, 40);
            for (int i : new int[] {0, 1, 38, 39}) {
                E.due("0", x.write(3, i, 0), 0);
                E.due("the greatest", x.write(3, i, top), top);
                E.due("the least", x.write(3, i, -top - 1), -top - 1);
                E.due("one above the greatest", x.write(3, i, top + 1), -top - 1);
                E.due("one below the least", x.write(3, i, -top - 2), top);
                E.due("all ones", x.write(3, i, top * 2 + 1), -1);
                E.due("one more", x.write(3, i, top * 2 + 2), 0);
                E.due("-1", x.write(3, i, -1), -1);
                E.due("the greatest long", x.write(3, i, Long.MAX_VALUE), sort == 3 ? Long.MAX_VALUE : -1);
                E.due("the least long", x.write(3, i, Long.MIN_VALUE), sort == 3 ? Long.MIN_VALUE : 0);
            }
        }
        FordLine x = Edges.full();
        Edges.tray(x, 2, 0, 0x109, 0x164, 0x1ff);
        x.strength(0, 0);
        E.due("as cut: 9, then 100, then -1", x.judge(2, 1), 1);
        E.due("the first of these", x.judge(2, 0), 0);
        x.write(2, 0, 0x164);
        E.due("two FLOODS, then -1", x.judge(2, 0), 2);
        x.write(2, 2, 256 + 100);
        E.due("three FLOODS", x.judge(2, 0), -1);
        x.write(2, 1, 200);
        E.due("200 has no room in 8 bits", x.judge(2, 0), 1);
        FordLine y = Edges.full();
        Edges.tray(y, 2, 1, 100, 100, 100);
        y.write(2, 1, -1);
        E.due("number i alone", y.judge(2, 0), 1);
        y.write(2, 1, 100);
        E.due("number i alone", y.judge(2, 0), -1);

        E.says("Promise 42", "-2: no such TRAY; -6; -7.");
        E.refusedEach(-2, "write tray", (z, tray) -> z.write(tray, 0, 1), -1, 4, LEAST, GREATEST);
        E.refusedEach(-6, "write missing", (z, i) -> z.write(2, i, 1), 0, 40, -1, GREATEST);
        E.refusedEach(-7, "write i", (z, i) -> z.write(0, i, 1), -1, 6, 40, LEAST, GREATEST);
        E.refusedEach(-7, "write i", (z, i) -> z.write(1, i, 1), -1, 2);
        E.refused(-2, "-2 ahead of -7", z -> z.write(4, -1, 1));
        E.in(() -> {
            FordLine z = Edges.full();
            z.numbers(2, 1, 0);
            z.numbers(0, 1, 40);
            return z;
        });
        E.refusedEach(-7, "write into none", (z, i) -> z.write(2, i, 1), 0, -1);
        E.refusedEach(-7, "write behind forty", (z, i) -> z.write(0, i, 1), 40, 41);
        E.in(FordLine::new);
        E.refusedEach(-6, "write missing", (z, tray) -> z.write(tray, 0, 1), 0, 1, 2, 3);
    }

    private static void promise43() {
        E.says("Promise 43", "GOINGS of COMING OVER of a set come into a TRAY, as DEEDS, as far as it has places: how many.");
        for (int places = 0; places <= 9; places++) {
            for (int sort = 0; sort <= 3; sort++) {
                FordLine x = Edges.full();
                x.numbers(2, sort, places);
                for (int i = 0; i < places; i++) x.write(2, i, 127);
                E.due("7 GOINGS into " + places, x.lists(2, 15), Math.min(7, places));
                E.due("these are done", x.perform(2), Math.min(7, places));
                E.due("and no other number is changed", x.write(2, Math.max(places - 1, 0), 0), places == 0 ? -7 : 0);
                E.due("who is over", x.count(3), new int[] {8, 8, 8, 8, 8, 9, 11, 15, 15, 15}[places]);
            }
        }
        FordLine rest = Edges.full();
        rest.numbers(2, 1, 9);
        for (int i = 0; i < 9; i++) rest.write(2, i, 100);
        rest.lists(2, 7);
        E.due("behind them all is as it was", rest.judge(2, 0), -1);
        FordLine none = Edges.full();
        Edges.tray(none, 2, 1, 1000);
        E.due("nobody", none.lists(2, 0), 0);
        E.due("over", none.lists(2, 8), 0);
        E.due("so it stays", none.judge(2, 0), 0);
        E.due("a TRAY alone is changed", none.count(6), 10);
        FordLine shut = Edges.ford("river 6;person reach 1 at 4;person reach 1 at 3;person reach 1 at 2;"
                + "person reach 1 at 1;trusts:1=2;");
        shut.numbers(0, 0, 40);
        E.due("eighteen", shut.lists(0, 15), 18);
        E.due("the last of these", shut.judge(0, 3), 15);

        E.says("Promise 43", "-2: the TRAY; -6; -3: the set; -5: there is none.");
        E.refusedEach(-2, "lists tray", (x, tray) -> x.lists(tray, 1), -1, 4, LEAST, GREATEST);
        E.refused(-6, "lists missing", x -> x.lists(2, 1));
        E.refusedEach(-3, "lists set", (x, set) -> x.lists(0, set), -1, 16, LEAST, GREATEST);
        E.refused(-2, "-2 ahead of -3", x -> x.lists(4, 16));
        E.refused(-6, "-6 ahead of -3", x -> x.lists(2, 16));
        E.in(() -> {
            FordLine x = new FordLine();
            x.numbers(0, 1, 3);
            return x;
        });
        E.refusedEach(-3, "lists set of nobody", (x, set) -> x.lists(0, set), 1, -1);
        E.due("the one ahead can always go on, so there is always one", shut.lists(0, 8), 16);
        E.neverRefused(-5);
    }

    private static void promises44And45() {
        E.says("Promise 44", "An IMAGE is made: 0.");
        for (int i = 0; i <= 1; i++) {
            FordLine x = Edges.full();
            E.due("image(" + i + ")", x.image(i), 0);
            E.due("what can be UNDONE stays", x.count(6), 10);
            x.undo(5);
            E.due("restore(" + i + ")", x.restore(i), 0);
            E.due("as it was", x.person(2, 0), 4);
            E.due("the other one", x.restore(1 - i), i == 0 ? -5 : 0);
        }
        FordLine again = Edges.full();
        again.image(1);
        again.go(2, 7);
        again.image(1);
        again.restore(1);
        E.due("in place of the one ahead", again.person(2, 0), 7);
        FordLine fresh = new FordLine();
        E.due("of no text", fresh.image(1), 0);
        Edges.tell(fresh, "river 3;tide 1;person reach 1;");
        E.due("back", fresh.restore(1), 0);
        E.due("1 SPOT", fresh.count(0), 1);
        E.due("no PEOPLE", fresh.count(1), 0);
        E.due("TIDE", fresh.count(5), 5);
        E.due("LINES", fresh.count(8), 0);

        E.says("Promise 44", "-2.");
        E.refusedEach(-2, "image", FordLine::image, -1, 2, LEAST, GREATEST);

        E.says("Promise 45", "All that is in an IMAGE is as it was: 0.");
        FordLine x = Edges.full();
        x.image(1);
        E.due("the older one", x.restore(0), 0);
        int[] places = {2, 1, 5, 7};
        int[] strengths = {7, 3, 8, 9};
        int[] depths = {1, 2, 3, 4, 5, 9};
        for (int p = 0; p < 4; p++) E.due("PLACE", x.person(p, 0), places[p]);
        for (int p = 0; p < 4; p++) E.due("STRENGTH", x.person(p, 2), strengths[p]);
        for (int s = 1; s <= 6; s++) E.due("DEPTH", x.spot(s, 0), depths[s - 1]);
        E.due("another text", x.river(35), 3);
        E.due("back", x.restore(0), 0);
        for (int p = 0; p < 4; p++) E.due("PLACE", x.person(p, 0), places[p]);
        for (int p = 0; p < 4; p++) E.due("REACH", x.person(p, 1), new int[] {2, 1, 3, 4}[p]);
        for (int p = 0; p < 4; p++) E.due("family", x.person(p, 3), new int[] {1, 1, 2, 0}[p]);
        E.due("TIDE", x.count(5), 4);
        E.due("LINES", x.count(8), 9);
        E.due("SPOTS", x.count(0), 6);
        E.due("the law trusts", x.trusts(2, 1, 2) * 10 + x.trusts(0, 1, 4), 1);
        E.due("the law holds", x.holds(2, 7) * 10 + x.holds(2, 8), 10);
        E.due("the other one", x.restore(1), 0);
        E.due("PLACE", x.person(2, 0), 4);
        E.due("and again", x.restore(0), 0);
        E.due("PLACE", x.person(2, 0), 5);

        E.says("Promise 45", "-2; -5: none was made.");
        E.refusedEach(-2, "restore", FordLine::restore, -1, 2, LEAST, GREATEST);
        E.refused(-5, "restore(1)", y -> y.restore(1));
        E.in(FordLine::new);
        E.refusedEach(-5, "restore", FordLine::restore, 0, 1);
    }

    private static void promise46() {
        E.says("Promise 46", "0 SPOTS, 1 PEOPLE, 2 who STANDS, as bits, 3 who is on the far bank, as bits, 4 all STRENGTHS "
                + "together, 5 TIDE, 6 calls that can be UNDONE, 7 bytes on THE TAPE, 8 LINES.");
        int[] counts = {6, 4, 5, 8, 27, 4, 10, 40, 9};
        int[] none = {1, 0, 0, 0, 0, 5, 0, 0, 0};
        for (int what = 0; what <= 8; what++) {
            int asked = what;
            E.in(Edges::full);
            E.unchanged(counts[what], "count(" + what + ")", x -> x.count(asked));
            E.in(FordLine::new);
            E.unchanged(none[what], "count(" + what + ")", x -> x.count(asked));
        }
        FordLine top = Edges.ford("river 4;person reach 1 strength 9 at 1;person reach 1 strength 9 at 2;"
                + "person reach 1 strength 9 at 3;person reach 1 strength 9 at 4;");
        E.due("all STAND", top.count(2), 15);
        E.due("all STRENGTHS", top.count(4), 36);
        for (int p = 0; p < 4; p++) top.strength(p, 0);
        E.due("no STRENGTH", top.count(4), 0);
        for (int i = 0; i < 20; i++) top.flood(0);
        E.due("10 can be UNDONE", top.count(6), 10);
        E.due("900 bytes", Edges.tape(900).count(7), 900);
        E.due("149 LINES", Edges.ford("river1;" + "tide0;".repeat(148)).count(8), 149);

        E.says("Promise 46", "NONE for others.");
        for (int what : new int[] {-1, 9, 10, LEAST, GREATEST}) {
            E.unchanged(-1, "count(" + what + ")", x -> x.count(what));
        }
    }

    private static void terms() {
        E.says("Terms 4", "TRAYS 0 to 3 are MISSING at first, or have 0 to 40 numbers of 8 bits (sort 0), 16 (1), 32 (2), "
                + "64 (3).");
        FordLine x = new FordLine();
        for (int tray = -1; tray <= 4; tray++) {
            E.due("TRAY " + tray + " at first", x.write(tray, 0, 1), tray < 0 || tray > 3 ? -2 : -6);
        }
        long[] cut = {0x98 - 0x100, 0xba98 - 0x10000, 0xfedcba98, 0x76543210fedcba98L};
        for (int tray = 0; tray <= 3; tray++) {
            E.due("40 numbers", x.numbers(tray, tray, 40), 0);
            E.due("the last of them", x.write(tray, 39, 0x76543210fedcba98L), cut[tray]);
            E.due("no other", x.write(tray, 40, 1), -7);
            E.due("41 can't be", x.numbers(tray, tray, 41), -3);
            E.due("so it has 40", x.write(tray, 39, 1), 1);
            E.due("0 numbers", x.numbers(tray, tray, 0), 0);
            E.due("none of them", x.write(tray, 0, 1), -7);
            E.due("but not MISSING", x.judge(tray, 0), -1);
        }
        Edges.tell(x, "river 1;");
        E.due("a river leaves TRAYS", x.judge(0, 0), -1);

        E.says("Terms 4", "IMAGES 0 to 1: THE RIVER and what a call could bring back by UNDOING; nothing can be UNDONE "
                + "behind (none at first).");
        FordLine y = new FordLine();
        for (int i = -1; i <= 2; i++) E.due("IMAGE " + i + " at first", y.restore(i), i < 0 || i > 1 ? -2 : -5);
        FordLine z = Edges.full();
        z.numbers(2, 0, 1);
        E.due("restore", z.restore(0), 0);
        E.due("nothing can be UNDONE", z.count(6), 0);
        E.due("nothing can be UNDONE", z.undo(1), -3);
        E.due("STRENGTH", z.strength(0, 1), 7);
        E.due("but what is done from there on", z.undo(1), 0);
        E.due("STRENGTH", z.person(0, 2), 7);
        E.due("THE TAPE isn't in it", z.count(7), 40);
        E.due("nor the FAULT", z.fault(0) * 100 + z.fault(1), 313);
        E.due("nor TRAYS", z.write(2, 0, 1), 1);
        E.due("nor IMAGES", z.restore(1), -5);
        z.image(1);
        z.strength(0, 2);
        z.restore(0);
        z.strength(0, 3);
        E.due("an IMAGE doesn't change with what goes on from it", z.restore(0), 0);
        E.due("STRENGTH", z.person(0, 2), 7);
        E.due("nor the other one", z.restore(1), 0);
        E.due("STRENGTH", z.person(0, 2), 7);
    }

    /** What a call answers, and that it is so without any change. */
    private static void ahead(long code, String what, ToLongFunction<FordLine> call) {
        E.refused(code, what, call);
    }

    private static void refusals() {
        E.says("Terms 4", "Refused calls answer by a code and change nothing: -2 there is none such; -3 a number can't be; "
                + "-4 too many; -5 it can't be now; -6 a TRAY is MISSING; -7 it has no such number; -11 to -13 why not (1 "
                + "to 3); -30 less the FAULT: a text.");
        E.refused(-2, "-2", x -> x.person(4, 0));
        E.refused(-3, "-3", x -> x.swept(10));
        E.in(() -> {
            FordLine x = Edges.full();
            x.numbers(2, 1, 13);
            return x;
        });
        E.refused(-4, "-4", x -> x.strengths(2, 0));
        E.in(Edges::full);
        E.refused(-5, "-5", x -> x.holds(1, 5));
        E.refused(-6, "-6", x -> x.perform(2));
        E.refused(-7, "-7", x -> x.write(1, 2, 5));
        E.refused(-11, "-11", x -> x.go(4, 0));
        E.refused(-12, "-12", x -> x.go(0, 2));
        E.refused(-13, "-13", x -> x.go(1, 7));
        E.faulty(1, "~%");
        E.faulty(2, "~");
        E.faulty(3, "river ~7");
        E.faulty(4, "river 1;holds:not not not not not not ~not");
        E.unchanged(0, "all refused calls, one behind the other", TrayEdgesTest::refuseAll);

        E.says("Terms 4", "(Of several that which the call tells first; all these ahead of NONE.)");
        ahead(-2, "trusts: PEOPLE ahead of how far", x -> x.trusts(4, 0, 5));
        ahead(-2, "holds: the PERSON ahead of the WATER", x -> x.holds(4, 10));
        ahead(-3, "holds: the WATER ahead of where it is", x -> x.holds(1, 10));
        ahead(-2, "steps: the PLACE ahead of NONE", x -> x.steps(0, 8));
        ahead(-11, "go: no such PERSON ahead of somebody", x -> x.go(4, 2));
        ahead(-12, "go: somebody ahead of no STEPS", x -> x.go(1, 4));
        ahead(-2, "judge: what ahead of MISSING", x -> x.judge(2, 4));
        ahead(-2, "perform: the TRAY", x -> x.perform(4));
        ahead(-3, "way: the set ahead of NONE", x -> x.way(16, 99));
        ahead(-3, "way: i ahead of NONE", x -> x.way(0, -1));
        ahead(-2, "stride: the PERSON ahead of NONE", x -> x.stride(4));
        ahead(-2, "least: the PERSON ahead of where it is", x -> x.least(4));
        ahead(-3, "order: i ahead of NONE", x -> x.order(-1));
        ahead(-2, "strengths: the PERSON ahead of MISSING", x -> x.strengths(2, 4));
        ahead(-6, "strengths: MISSING ahead of where it is", x -> x.strengths(2, 1));
        ahead(-3, "strengths: a number ahead of where it is", x -> x.strengths(3, 1));
        ahead(-2, "attempt: the TRAY ahead of all", x -> x.attempt(4, 1));
        ahead(-2, "chance: what ahead of n", x -> x.chance(1, 7, 2));
        ahead(-3, "chance: n ahead of where it is", x -> x.chance(1, 7, 1));
        ahead(-2, "mean: what ahead of n", x -> x.mean(7, 2));
        ahead(-2, "numbers: the sort ahead of n", x -> x.numbers(0, 4, 41));
        ahead(-2, "write: the TRAY ahead of i", x -> x.write(4, 99, 0));
        ahead(-6, "write: MISSING ahead of i", x -> x.write(2, 99, 0));
        ahead(-2, "lists: the TRAY ahead of the set", x -> x.lists(-1, 16));
        ahead(-6, "lists: MISSING ahead of the set", x -> x.lists(2, 16));
        ahead(-2, "restore: none such ahead of none made", x -> x.restore(2));
    }

    /** How many of these were not refused. */
    private static long refuseAll(FordLine x) {
        long[] answers = {x.river(41), x.river(-1), x.person(4, 0), x.person(0, 5), x.spot(7, 0), x.spot(1, 2),
            x.trusts(0, 0, 1), x.trusts(0, 1, 5), x.holds(4, 0), x.holds(0, 10), x.holds(3, 0), x.steps(4, 0),
            x.steps(0, 8), x.go(4, 0), x.go(0, 8), x.go(0, 2), x.go(0, 4), x.go(0, 7), x.flood(10), x.flood(-1),
            x.strength(4, 0), x.strength(0, 10), x.depth(7, 0), x.depth(1, 10), x.undo(0), x.undo(11), x.judge(4, 0),
            x.judge(0, 4), x.judge(2, 0), x.perform(4), x.perform(2), x.season(1, 0), x.season(1, 41), x.soonest(16),
            x.way(16, 0), x.way(0, -1), x.rows(16, 0), x.rows(0, 11), x.needed(16), x.movers(16), x.reach(4),
            x.stride(4), x.swept(10), x.least(4), x.least(1), x.looks(10), x.order(-1), x.strengths(4, 0),
            x.strengths(2, 0), x.strengths(3, 0), x.strengths(1, 1), x.attempt(4, 0), x.attempt(2, 0), x.pairs(14),
            x.forces(4), x.best(4), x.chance(4, 0, 0), x.chance(0, 7, 0), x.chance(1, 0, 0), x.mean(0, 2), x.mean(7, 0),
            x.numbers(4, 0, 0), x.numbers(0, 4, 0), x.numbers(0, 0, 41), x.write(4, 0, 0), x.write(2, 0, 0),
            x.write(0, 6, 0), x.lists(4, 0), x.lists(2, 0), x.lists(0, 16), x.image(2), x.restore(2), x.restore(1)};
        int taken = 0;
        for (long answer : answers) taken += answer < -1 ? 0 : 1;
        return taken;
    }

    private static void calls() {
        E.says("Constants", "The constants: `NONE = -1`: There is none.");
        E.due("NONE", FordLine.NONE, -1);

        E.says("Calls", "An object is used for at most 512 calls after it has been made; what later calls answer is free.");
        FordLine x = Edges.ford("river 6;person reach 4;person reach 3;person reach 2;person reach 1;");
        int[] places = new int[4];
        for (int call = 6; call <= 510; call++) {
            int p = call % 4;
            int to = (places[p] + 1) % 8;
            int answer = x.go(p, to);
            E.due("call " + call, answer < 0 ? places[p] : answer, places[p]);
            if (answer >= 0) places[p] = to;
        }
        E.due("the 511th", x.person(2, 0), places[2]);
        E.due("the 512th", x.count(6), 10);
        FordLine y = new FordLine();
        for (int call = 1; call <= 512; call++) E.due("call " + call, y.depth(1, call % 10), (call - 1) % 10);
    }

    public static void main(String[] args) {
        promise41();
        promise42();
        promise43();
        promises44And45();
        promise46();
        terms();
        refusals();
        calls();
        E.end(Edges.promises(41, 46, "Terms 4", "Constants", "Calls"));
    }
}
