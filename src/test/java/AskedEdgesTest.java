import java.util.ArrayList;
import java.util.Arrays;
import java.util.List;
import java.util.function.Consumer;
import java.util.function.ToLongBiFunction;
import java.util.function.ToLongFunction;

/** What can be asked: promises 18 to 40 and what "Terms" says of these, sentence by sentence at its edges. */
public final class AskedEdgesTest {
    private static final Edges E = new Edges();
    private static final int LEAST = Edges.LEAST;
    private static final int GREATEST = Edges.GREATEST;

    /** Nobody TRUSTS anybody, all in the way of each other: 3 + 4 + 5 + 6 GOINGS of one PLACE each. */
    private static final String SHUT = "river 6;person reach 1 at 4;person reach 1 at 3;person reach 1 at 2;"
            + "person reach 1 at 1;trusts:1=2;";
    private static final String IN_A_ROW = "river 3;person reach 1 strength 1 at 1;person reach 1 strength 1 at 2;"
            + "person reach 1 strength 1 at 3;holds:strength+beside*2+1>water;";
    private static final String WIDE = "river 6;person reach 4;person reach 4;person reach 4;person reach 4;";

    private static FordLine ford(String text) {
        return Edges.ford(text);
    }

    /** The sets that there are not, for 4, 1 and no PEOPLE. */
    private static void badSets(String what, Edges.Call call) {
        E.refusedEach(-3, what, call, 16, -1, 31, 17, LEAST, GREATEST);
        E.in(() -> ford("river 1;person reach 1;"));
        E.refusedEach(-3, what, call, 2, 3, -1);
        E.in(FordLine::new);
        E.refusedEach(-3, what, call, 1, -1);
        E.in(Edges::full);
    }

    private static void badPeople(long code, String what, Edges.Call call) {
        E.refusedEach(code, what, call, -1, 4, LEAST, GREATEST);
        E.in(() -> ford("river 1;person reach 1 at 1;"));
        E.refusedEach(code, what, call, 1, 2);
        E.in(FordLine::new);
        E.refusedEach(code, what, call, 0, -1);
        E.in(Edges::full);
    }

    private static void badWaters(long code, String what, Edges.Call call) {
        E.refusedEach(code, what, call, -1, 10, LEAST, GREATEST);
        E.in(FordLine::new);
        E.refusedEach(code, what, call, -1, 10);
        E.in(Edges::full);
    }

    // ---- coming over

    private static void promise18() {
        E.says("Promise 18", "COMING OVER of a set: how many GOINGS.");
        int[] soonest = {0, 2, 5, 6, 1, 3, 6, 7, 0, 2, 5, 6, 1, 3, 6, 7};
        for (int set = 0; set < 16; set++) {
            int one = set;
            E.unchanged(soonest[set], "soonest(" + set + ")", x -> x.soonest(one));
        }
        E.due("nobody", new FordLine().soonest(0), 0);
        E.due("18 of them", ford(SHUT).soonest(15), 18);
        E.due("over", ford("river 1;person reach 1 at 2;").soonest(1), 0);
        E.due("one", ford("river 3;person reach 4;").soonest(1), 1);
        E.due("one, by five STEPS", ford(DeedEdgesTest.FIVE_STEPS).soonest(1), 1);

        E.says("Promise 18", "NONE: it can't be;");
        for (int a = 0; a <= 3; a++) {
            for (int b = 0; b <= 3; b++) {
                for (int c = 0; c <= 3; c++) {
                    boolean twice = a == b && a % 3 > 0 || a == c && a % 3 > 0 || b == c && b % 3 > 0;
                    if (twice) continue;
                    FordLine x = ford("river 2;person reach 1 at " + a + ";person reach 1 at " + b + ";person reach 1 at "
                            + c + ";trusts:1=2;");
                    E.due("the one ahead can always go on, from " + a + b + c, x.soonest(7), 9 - a - b - c);
                }
            }
        }

        E.says("Promise 18", "-3: others are in the set.");
        badSets("soonest", FordLine::soonest);
        E.due("all of two, 0 as a stone for 1", ford("river 1;person reach 1;person reach 1;").soonest(3), 3);
        E.due("one more", ford("river 1;person reach 1;person reach 1;").soonest(4), -3);
        E.due("one more", ford("river 1;person reach 1;person reach 1;").soonest(7), -3);
    }

    private static void promise19() {
        E.says("Promise 19", "The i-th GOING of it, as a DEED.");
        int[] way = {11, 13, 5, 16, 7, 17, 27};
        for (int i = 0; i < way.length; i++) {
            int at = i;
            E.unchanged(way[i], "way(7," + i + ")", x -> x.way(7, at));
        }
        FordLine shut = ford(SHUT);
        int[] all = {5, 6, 7, 14, 15, 16, 17, 23, 24, 25, 26, 27, 32, 33, 34, 35, 36, 37};
        for (int i = 0; i < all.length; i++) E.due("one PLACE on each time, " + i, shut.way(15, i), all[i]);

        E.says("Promise 19", "NONE: not so many, it can't be;");
        for (int i : new int[] {7, 8, 100, GREATEST}) E.unchanged(-1, "way(7," + i + ")", x -> x.way(7, i));
        E.unchanged(-1, "nobody has to", x -> x.way(0, 0));
        E.unchanged(-1, "over", x -> x.way(8, 0));
        E.unchanged(-1, "one, not two", x -> x.way(4, 1));
        E.due("18, not 19", ford(SHUT).way(15, 18), -1);

        E.says("Promise 19", "-3: the set, i is below 0.");
        badSets("way", (x, set) -> x.way(set, 0));
        E.refusedEach(-3, "way i", (x, i) -> x.way(7, i), -1, LEAST);
        E.refusedEach(-3, "ahead of NONE", (x, i) -> x.way(16, i), 7, GREATEST, -1);
        E.refused(-3, "ahead of NONE", x -> x.way(0, -1));
    }

    private static void promise20() {
        E.says("Promise 20", "How many ROWS of just n GOINGS (0 to 10) there are behind which a set is on the far bank.");
        long[] any = {1, 1, 2, 2, 4, 4, 8, 8, 16, 16, 32};
        long[] over = {0, 0, 1, 0, 2, 0, 4, 0, 8, 0, 16};
        E.in(() -> ford("river 1;person reach 1;"));
        for (int n = 0; n <= 10; n++) {
            int many = n;
            E.unchanged(any[n], "rows(0," + n + ")", x -> x.rows(0, many));
            E.unchanged(over[n], "rows(1," + n + ")", x -> x.rows(1, many));
        }
        E.due("none", new FordLine().rows(0, 0), 1);
        E.due("nobody can", new FordLine().rows(0, 1), 0);
        E.due("nobody can", new FordLine().rows(0, 10), 0);
        E.due("far more than an int", ford(WIDE).rows(0, 10), 10111902925152L);
        E.due("a set of all", ford(WIDE).rows(15, 10), 2781188376L);
        E.due("fewer than soonest", ford(SHUT).rows(15, 10), 0);
        E.in(Edges::full);
        E.unchanged(3674, "rows(0,3)", x -> x.rows(0, 3));
        E.unchanged(394, "rows(4,3)", x -> x.rows(4, 3));

        E.says("Promise 20", "-3: the set, n.");
        badSets("rows", (x, set) -> x.rows(set, 0));
        E.refusedEach(-3, "rows n", (x, n) -> x.rows(0, n), -1, 11, LEAST, GREATEST);
        E.in(FordLine::new);
        E.refusedEach(-3, "rows n", (x, n) -> x.rows(0, n), -1, 11);
    }

    private static void promise21() {
        E.says("Promise 21", "PEOPLE without a GOING of each of whom there is no COMING OVER of a set, as bits (0: there is "
                + "none anyhow).");
        for (int set = 0; set < 16; set++) {
            int one = set;
            E.unchanged(set & 7, "who isn't over, and nobody else: needed(" + set + ")", x -> x.needed(one));
        }
        FordLine blocked = ford("river 2;person reach 1;person reach 1 at 1;trusts:1=2;");
        int[] needed = {0, 3, 2, 3};
        for (int set = 0; set < 4; set++) E.due("one in the way", blocked.needed(set), needed[set]);
        FordLine either = ford("river 3;person reach 2;person reach 2 at 1;person reach 2 at 2;trusts:1=2;");
        E.due("one of two in the way, but neither for sure", either.needed(1), 1);
        E.due("all behind one another", ford(SHUT).needed(8), 15);
        E.due("the one ahead alone", ford(SHUT).needed(1), 1);
        E.due("nobody", new FordLine().needed(0), 0);

        E.says("Promise 21", "-3.");
        badSets("needed", FordLine::needed);
    }

    private static void promise22() {
        E.says("Promise 22", "The fewest PEOPLE by whose GOINGS alone a set COMES OVER, of like ones the least set as bits.");
        for (int set = 0; set < 16; set++) {
            int one = set;
            E.unchanged(set & 7, "movers(" + set + ")", x -> x.movers(one));
        }
        E.due("0 with 1 or 2", ford("river 3;person reach 2;person reach 2 at 1;person reach 2 at 2;trusts:1=2;").movers(1), 3);
        E.due("2 with 0 or 1", ford("river 3;person reach 2 at 1;person reach 2 at 2;person reach 2;trusts:1=2;").movers(4), 5);
        FordLine fewest = ford("river 4;person reach 2;person reach 3 at 1;person reach 3 at 3;person reach 3 at 2;"
                + "trusts:1=2;");
        E.due("0 and 3, not 0 with 1 and 2", fewest.movers(1), 9);
        E.due("all", ford(SHUT).movers(8), 15);
        E.due("nobody", new FordLine().movers(0), 0);
        E.due("over", ford("river 1;person reach 1 at 2;").movers(1), 0);

        E.says("Promise 22", "NONE: it can't be;");
        for (int set = 1; set < 16; set++) E.right("it always can be: " + set, ford(SHUT).movers(set) >= set);

        E.says("Promise 22", "-3.");
        badSets("movers", FordLine::movers);
    }

    private static void promises23To25() {
        E.says("Promise 23", "The most PEOPLE that can be on the far bank at one time by some ROW.");
        E.unchanged(4, "most()", FordLine::most);
        E.due("nobody", new FordLine().most(), 0);
        for (int people = 1; people <= 4; people++) {
            E.due("all of " + people, ford("river 1;" + "person reach 1;".repeat(people) + "trusts:1=2;").most(), people);
        }
        for (int people = 1; people <= 4; people++) {
            E.due("all of " + people + ", as they are", ford("river 1;" + "person reach 1 at 2;".repeat(people)).most(), people);
        }
        E.due("all", ford(SHUT).most(), 4);

        E.says("Promise 24", "PLACES where a PERSON can be by some ROW, as bits (where it is, too).");
        for (int p = 0; p < 4; p++) {
            int one = p;
            E.unchanged(255, "reach(" + p + ")", x -> x.reach(one));
        }
        for (int spots = 1; spots <= 6; spots++) {
            for (int at = 0; at <= spots + 1; at++) {
                E.due("one alone", ford("river " + spots + ";person reach 1 at " + at + ";").reach(0), (1 << spots + 2) - 1);
            }
            FordLine x = ford("river " + spots + ";person reach 1 at 1;person reach 1;trusts:1=2;");
            E.due("all of " + spots, x.reach(0), (1 << spots + 2) - 1);
            E.due("all of " + spots, x.reach(1), (1 << spots + 2) - 1);
        }

        E.says("Promise 24", "-2.");
        badPeople(-2, "reach", FordLine::reach);

        E.says("Promise 25", "In how many ways all can be by some ROW (as they are, too).");
        E.unchanged(2248, "stands()", FordLine::stands);
        E.due("nobody", new FordLine().stands(), 1);
        int[] one = {3, 4, 5, 6, 7, 8};
        for (int spots = 1; spots <= 6; spots++) {
            E.due("one PERSON", ford("river " + spots + ";person reach 1;").stands(), one[spots - 1]);
        }
        E.due("two on one SPOT can't be", ford("river 1;person reach 1;person reach 1;").stands(), 8);
        E.due("four by one SPOT", ford("river 1;" + "person reach 1;".repeat(4)).stands(), 48);
    }

    private static void promise26() {
        E.says("Promise 26", "The least REACH (1 to 9) by which a PERSON could GO to the far bank now, all else as it is.");
        int[] stride = {3, 3, 3, -1};
        for (int p = 0; p < 4; p++) {
            int one = p;
            E.unchanged(stride[p], "stride(" + p + ")", x -> x.stride(one));
        }
        for (int at = 0; at <= 6; at++) {
            E.due("from " + at, ford("river 6;person reach 2 at " + at + ";").stride(0), 7 - at);
        }
        E.due("by a stone", ford("river 6;person reach 1;person reach 1 at 3;").stride(0), 4);
        E.due("a stone too far to trust", ford("river 6;person reach 1;person reach 1 at 3;trusts:gap<3;").stride(0), 7);
        E.due("a stone just as far", ford("river 6;person reach 1;person reach 1 at 3;trusts:gap<4;").stride(0), 4);
        E.due("gaps above 4, too", ford("river 6;person reach 1;person reach 1 at 6;trusts:gap=6;").stride(0), 6);
        E.due("less than its own", ford("river 2;person reach 4 at 2;").stride(0), 1);
        E.due("by five STEPS", ford(DeedEdgesTest.FIVE_STEPS.replace("reach 2", "reach 1")).stride(0), 2);

        E.says("Promise 26", "NONE: by none; it is there; -2.");
        E.unchanged(-1, "it is there", x -> x.stride(3));
        E.due("it is there", ford("river 1;person reach 1 at 2;").stride(0), -1);
        E.due("by 7 at the latest", ford("river 6;person reach 1;person reach 1 at 6;trusts:1=2;").stride(0), 7);
        badPeople(-2, "stride", FordLine::stride);
    }

    // ---- water

    private static void promise27() {
        E.says("Promise 27", "Who would be swept by a FLOOD of WATER 0 to 9 now, as bits.");
        int[] swept = {0, 0, 0, 0, 0, 0, 0, 1, 5, 5};
        for (int water = 0; water <= 9; water++) {
            int w = water;
            E.unchanged(swept[water], "swept(" + water + ")", x -> x.swept(w));
        }
        E.due("in later looks, too", ford(IN_A_ROW).swept(4), 7);
        E.due("0 can sweep", ford("river 1;person reach 1 at 1;holds:1=2;").swept(0), 1);
        E.due("nobody", new FordLine().swept(9), 0);

        E.says("Promise 27", "-3.");
        badWaters(-3, "swept", FordLine::swept);
    }

    private static void promise28() {
        E.says("Promise 28", "The least WATER of a FLOOD by which a PERSON that STANDS would be swept.");
        E.unchanged(7, "least(0)", x -> x.least(0));
        E.unchanged(8, "least(2)", x -> x.least(2));
        for (int strength = 0; strength < 9; strength++) {
            E.due("one above", ford("river 1;person reach 1 strength " + strength + " at 1;").least(0), strength + 1);
        }
        E.due("0", ford("river 1;person reach 1 at 1;holds:1=2;").least(0), 0);
        E.due("in a later look", ford(IN_A_ROW).least(1), 4);
        E.due("though 6 is the first that it wouldn't hold in", ford(IN_A_ROW).holds(1, 5), 1);
        E.due("the least, greater ones don't", ford("river 1;person reach 1 at 1;holds:not water=3;").least(0), 3);

        E.says("Promise 28", "NONE: by none to 9; -2; -5: it doesn't STAND.");
        E.in(() -> ford("river 1;person reach 1 strength 9 at 1;"));
        E.unchanged(-1, "by none", x -> x.least(0));
        E.in(() -> ford("river 1;person reach 1 at 1;holds:1=1;"));
        E.unchanged(-1, "by none", x -> x.least(0));
        E.due("9", ford("river 1;person reach 1 at 1;holds:water<9;").least(0), 9);
        E.in(Edges::full);
        badPeople(-2, "least", FordLine::least);
        E.refused(-5, "on the near bank", x -> x.least(1));
        E.refused(-5, "on the far bank", x -> x.least(3));
    }

    private static void promises29And30() {
        E.says("Promise 29", "The greatest WATER of a FLOOD by which nobody would be swept.");
        E.unchanged(6, "calm()", FordLine::calm);
        E.due("nobody there", new FordLine().calm(), 9);
        E.due("nobody STANDS", ford("river 1;person reach 1;person reach 1 at 2;holds:1=2;").calm(), 9);
        for (int strength = 0; strength <= 9; strength++) {
            E.due("as strong", ford("river 1;person reach 1 strength " + strength + " at 1;").calm(), strength);
        }
        E.due("the greatest, lesser ones do", ford("river 1;person reach 1 at 1;holds:water=7 or water=2;").calm(), 7);
        E.due("nobody of three", ford(IN_A_ROW).calm(), 3);
        E.due("0 alone", ford("river 1;person reach 1 at 1;holds:water=0;").calm(), 0);

        E.says("Promise 29", "NONE: by none.");
        E.in(() -> ford("river 1;person reach 1 at 1;holds:1=2;"));
        E.unchanged(-1, "calm()", FordLine::calm);

        E.says("Promise 30", "In how many looks a FLOOD would sweep all whom it sweeps (0: nobody).");
        int[] looks = {0, 0, 0, 0, 0, 0, 0, 1, 1, 1};
        for (int water = 0; water <= 9; water++) {
            int w = water;
            E.unchanged(looks[water], "looks(" + water + ")", x -> x.looks(w));
        }
        E.due("nobody", ford(IN_A_ROW).looks(3), 0);
        E.due("two looks", ford(IN_A_ROW).looks(4), 2);
        E.due("two looks", ford(IN_A_ROW).looks(5), 2);
        E.due("all at once", ford(IN_A_ROW).looks(6), 1);
        E.due("four looks", ford("river 4;person reach 1 at 1;person reach 1 at 2;person reach 1 at 3;"
                + "person reach 1 at 4;holds:who<3 and [beside=2 or who=0 and beside=1];").looks(0), 4);
        E.due("nobody there", new FordLine().looks(9), 0);

        E.says("Promise 30", "-3.");
        badWaters(-3, "looks", FordLine::looks);
    }

    // ---- orders

    private static void promises31To33() {
        E.says("Promise 31", "ORDERS: how many (1, if all are on the near bank).");
        E.unchanged(1, "orders()", FordLine::orders);
        E.due("nobody", new FordLine().orders(), 1);
        E.due("all on the near bank", ford(WIDE).orders(), 1);
        String any = "river 3;person reach 4 at 3;person reach 4 at 1;person reach 4 at 2;person reach 4 at 4;";
        E.due("all", ford(any).orders(), 24);
        E.due("the last by all three stones", ford("river 3;person reach 1 at 1;person reach 1 at 2;person reach 1 at 3;"
                + "person reach 1 at 4;").orders(), 1);
        E.in(() -> ford("river 3;person reach 1 at 2;"));
        E.unchanged(0, "none", FordLine::orders);

        E.says("Promise 32", "The i-th PERSON of the first ORDER.");
        E.in(Edges::full);
        int[] order = {0, 2, 3};
        for (int i = 0; i < 3; i++) {
            int at = i;
            E.unchanged(order[i], "order(" + i + ")", x -> x.order(at));
        }
        for (int i = 0; i < 4; i++) E.due("first of all", ford(any).order(i), i);

        E.says("Promise 32", "NONE: not so many, there is none;");
        for (int i : new int[] {3, 4, 5, GREATEST}) E.unchanged(-1, "order(" + i + ")", x -> x.order(i));
        E.due("four, not five", ford(any).order(4), -1);
        E.due("nobody", new FordLine().order(0), -1);
        E.due("all on the near bank", ford(WIDE).order(0), -1);
        E.due("there is none", ford("river 3;person reach 1 at 2;").order(0), -1);
        E.due("there is none, though the first could", ford("river 4;person reach 1 at 1;person reach 1 at 4;").order(0), -1);

        E.says("Promise 32", "-3: i is below 0.");
        E.refusedEach(-3, "order", FordLine::order, -1, LEAST);
        E.in(() -> ford("river 3;person reach 1 at 2;"));
        E.refused(-3, "ahead of NONE", x -> x.order(-1));

        E.says("Promise 33", "Who can have been the first, as bits.");
        E.in(() -> ford("river 3;person reach 1 at 2;"));
        E.unchanged(0, "none", FordLine::firsts);
        E.in(Edges::full);
        E.unchanged(1, "firsts()", FordLine::firsts);
        E.due("each", ford(any).firsts(), 15);
        E.due("nobody", new FordLine().firsts(), 0);
        E.due("all on the near bank", ford(WIDE).firsts(), 0);
        E.due("who could, but the rest not", ford("river 4;person reach 1 at 1;person reach 1 at 4;").firsts(), 0);
        E.due("either of two stones", ford("river 2;person reach 2 at 2;person reach 1 at 1;"
                + "person reach 2 at 3;trusts:who=2;").firsts(), 3);
        E.due("who would be in the way", ford("river 2;person reach 1 at 2;person reach 1 at 3;trusts:1=2;").firsts(), 0);
    }

    // ---- felt

    /** A PERSON on a SPOT, one on each bank, and a TRAY 0 of a sort with these numbers. */
    private static FordLine felt(int sort, long... numbers) {
        FordLine x = ford("river 2;person reach 1 strength 4 at 1;person reach 1;person reach 1 at 3;");
        Edges.tray(x, 0, sort, numbers);
        return x;
    }

    private static void badFelt(String what, ToLongBiFunction<FordLine, int[]> call) {
        E.in(Edges::full);
        for (int tray : new int[] {-1, 4, LEAST, GREATEST}) {
            E.refused(-2, what + " tray " + tray, x -> call.applyAsLong(x, new int[] {tray, 0}));
        }
        for (int p : new int[] {-1, 4, LEAST, GREATEST}) {
            E.refused(-2, what + " p " + p, x -> call.applyAsLong(x, new int[] {1, p}));
        }
        E.refused(-6, what + " missing", x -> call.applyAsLong(x, new int[] {2, 0}));
        E.refused(-5, what + " on the near bank", x -> call.applyAsLong(x, new int[] {1, 1}));
        E.refused(-5, what + " on the far bank", x -> call.applyAsLong(x, new int[] {1, 3}));
        E.refused(-2, what + ": -2 ahead of -6", x -> call.applyAsLong(x, new int[] {2, 4}));
        E.refused(-6, what + ": -6 ahead of -5", x -> call.applyAsLong(x, new int[] {2, 1}));
        E.refused(-3, what + ": -3 ahead of -5", x -> call.applyAsLong(x, new int[] {3, 1}));
        long[][] many = {{}, new long[13], new long[40]};
        for (long[] numbers : many) {
            E.in(() -> felt(1, numbers));
            for (int p = 0; p < 3; p++) {
                int one = p;
                E.refused(-4, what + " of " + numbers.length, x -> call.applyAsLong(x, new int[] {0, one}));
            }
            E.refused(-2, what + ": -2 ahead of -4", x -> call.applyAsLong(x, new int[] {0, 3}));
        }
        long[] bad = new long[13];
        bad[0] = 20;
        E.in(() -> felt(1, bad));
        E.refused(-4, what + ": -4 ahead of -3", x -> call.applyAsLong(x, new int[] {0, 0}));
        for (long one : new long[] {-1, 20, Long.MIN_VALUE, Long.MAX_VALUE, 1L << 32, (1L << 32) + 3}) {
            E.in(() -> felt(3, one));
            E.refused(-3, what + " with " + one, x -> call.applyAsLong(x, new int[] {0, 0}));
            E.in(() -> felt(3, 0, 1, 2, 3, 4, 5, 6, 7, 8, 9, 10, one));
            E.refused(-3, what + " with " + one + " at last", x -> call.applyAsLong(x, new int[] {0, 1}));
        }
    }

    private static void promises34And35() {
        E.says("Promise 34", "FELT: STRENGTHS, as bits.");
        E.unchanged(0b1110000000, "7 to 9", x -> x.strengths(1, 0));
        E.unchanged(0b1110000000, "7 to 9", x -> x.strengths(1, 2));
        E.due("all", felt(0, 1).strengths(0, 0), 1023);
        E.due("none", felt(0, 0).strengths(0, 0), 0);
        E.due("9 alone", felt(0, 19).strengths(0, 0), 512);
        E.due("but 9", felt(0, 18).strengths(0, 0), 511);
        E.due("0 alone", felt(0, 2).strengths(0, 0), 1);

        E.says("Promise 34", "-2: the TRAY, the PERSON; -6; -4: not 1 to 12 numbers; -3: one is none such; -5: it doesn't "
                + "STAND.");
        badFelt("strengths", (x, a) -> x.strengths(a[0], a[1]));
        E.due("1 number", felt(1, 9).strengths(0, 0), 1008);
        E.due("12 numbers", felt(1, 9, 9, 9, 9, 9, 9, 9, 9, 9, 9, 9, 12).strengths(0, 0), 0b110000);
        for (int n = 0; n <= 19; n++) E.right("0 to 19 are such: " + n, felt(1, n).strengths(0, 0) >= 0);

        E.says("Promise 35", "The WATER to try next: the lesser number of these STRENGTHS by which it would HOLD, or "
                + "wouldn't, is greatest, the first.");
        E.in(Edges::full);
        E.unchanged(7, "attempt(1,0)", x -> x.attempt(1, 0));
        E.due("of ten", felt(1, 1).attempt(0, 0), 5);
        E.due("of 5 to 9, 6 ahead of 7", felt(1, 11).attempt(0, 0), 7);
        E.due("of 4 to 9", felt(1, 9).attempt(0, 0), 7);
        E.due("of 8 and 9", felt(1, 17).attempt(0, 0), 9);
        E.due("of one alone: the first", felt(1, 19).attempt(0, 0), 0);
        FordLine two = ford("river 1;person reach 1 at 1;holds:strength>4 and water=3 or strength>4 and water=6 or water=0;");
        Edges.tray(two, 0, 1, 1);
        E.due("3 as well as 6: the first", two.attempt(0, 0), 3);
        FordLine wouldnt = ford("river 1;person reach 1 at 1;holds:water=0 or strength<3 and water=9 or water=4 and strength>0;");
        Edges.tray(wouldnt, 0, 1, 1);
        E.due("three of ten ahead of one of ten", wouldnt.attempt(0, 0), 9);

        E.says("Promise 35", "NONE: there are none; as strengths().");
        E.in(() -> felt(1, 13, 12));
        E.unchanged(-1, "there are none", x -> x.attempt(0, 0));
        E.unchanged(0, "there are none", x -> x.strengths(0, 0));
        badFelt("attempt", (x, a) -> x.attempt(a[0], a[1]));
        E.in(() -> felt(1, 13, 12));
        E.refused(-5, "-5 ahead of NONE", x -> x.attempt(0, 1));
    }

    // ---- together

    private static void promise36() {
        E.says("Promise 36", "PAIRS, what 0: how many, 10 + p: with whom PERSON p is (NONE).");
        E.unchanged(2, "pairs(0)", x -> x.pairs(0));
        int[] mates = {1, 0, 3, 2};
        for (int p = 0; p < 4; p++) {
            int one = p;
            E.unchanged(mates[p], "pairs(" + (10 + p) + ")", x -> x.pairs(10 + one));
        }
        E.due("nobody", new FordLine().pairs(0), 0);
        E.due("one alone", ford("river 1;person reach 1;").pairs(0), 0);
        E.due("one alone", ford("river 1;person reach 1;").pairs(10), -1);
        FordLine three = ford("river 1;person reach 1;person reach 1;person reach 1;");
        E.due("one of three", three.pairs(0), 1);
        E.due("none for 2", three.pairs(12), -1);

        E.says("Promise 36", "-2: what (10 and a PERSON).");
        E.refusedEach(-2, "pairs", FordLine::pairs, -1, 1, 9, 14, 15, LEAST, GREATEST, LEAST + 10);
        E.in(() -> ford("river 1;person reach 1;"));
        E.refusedEach(-2, "pairs", FordLine::pairs, 11, 13);
        E.in(FordLine::new);
        E.refusedEach(-2, "pairs", FordLine::pairs, 10, 1, -1);
    }

    // ---- by turns

    private static void promises37And38() {
        E.says("Promise 37", "FORCING: within how many turns, at fewest (0: it is over).");
        int[] forces = {2, 5, 1, 0};
        int[] best = {5, 11, 27, -1};
        for (int p = 0; p < 4; p++) {
            int one = p;
            E.unchanged(forces[p], "forces(" + p + ")", x -> x.forces(one));
        }
        for (int at = 0; at <= 7; at++) {
            E.due("one PLACE a turn", ford("river 6;tide 9;person reach 1 strength 9 at " + at + ";").forces(0), 7 - at);
        }
        E.due("0 over, the others back: 3 + 3 + 2 + 1 turns and 7", ford(SHUT + "tide 0;").forces(3), 16);

        E.due("by five STEPS", ford(DeedEdgesTest.FIVE_STEPS).forces(0), 1);

        E.says("Promise 37", "NONE: never; -2.");
        E.in(() -> ford("river 1;tide 6;person reach 1;"));
        E.unchanged(-1, "never", x -> x.forces(0));
        E.due("as strong as the TIDE", ford("river 1;tide 5;person reach 1;").forces(0), 2);
        E.in(Edges::full);
        badPeople(-2, "forces", FordLine::forces);

        E.says("Promise 38", "The first GOING (as a DEED; 99: none GOES, behind all) by which they do within as few.");
        for (int p = 0; p < 4; p++) {
            int one = p;
            E.unchanged(best[p], "best(" + p + ")", x -> x.best(one));
        }
        E.due("to 1, 2 or 3, then over", ford("river 3;tide 0;person reach 3;").best(0), 1);
        E.due("1 first of all", ford("river 3;tide 0;person reach 2;").best(0), 2);
        E.due("straight over", ford("river 1;tide 9;person reach 2 strength 0;").best(0), 2);
        E.due("who is in the way has to GO first, it needn't be swept", ford("river 1;tide 5;person reach 1 strength 9;"
                + "person reach 2 strength 1 at 1;trusts:1=2;").best(0), 10);

        E.says("Promise 38", "NONE: they don't, it is over; -2.");
        E.unchanged(-1, "it is over", x -> x.best(3));
        E.in(() -> ford("river 1;tide 6;person reach 1;"));
        E.unchanged(-1, "they don't", x -> x.best(0));
        E.in(Edges::full);
        badPeople(-2, "best", FordLine::best);
    }

    // ---- springs

    private static void promises39And40() {
        E.says("Promise 39", "How likely a PERSON that STANDS still does behind n SPRINGS, what 0: the number above, 1: "
                + "below, in lowest terms.");
        E.unchanged(7, "chance(0,1,0)", x -> x.chance(0, 1, 0));
        E.unchanged(10, "chance(0,1,1)", x -> x.chance(0, 1, 1));
        E.unchanged(16, "chance(2,2,0)", x -> x.chance(2, 2, 0));
        E.unchanged(25, "chance(2,2,1)", x -> x.chance(2, 2, 1));
        E.unchanged(1, "none", x -> x.chance(2, 0, 0));
        E.unchanged(1, "none", x -> x.chance(2, 0, 1));
        int[] seven = {1, 7, 49, 343, 2401, 16807, 117649};
        int[] ten = {1, 10, 100, 1000, 10000, 100000, 1000000};
        for (int n = 0; n <= 6; n++) {
            E.due("seven of ten, " + n + " times", Edges.full().chance(0, n, 0), seven[n]);
            E.due("seven of ten, " + n + " times", Edges.full().chance(0, n, 1), ten[n]);
            FordLine never = ford("river 1;person reach 1 at 1;holds:1=2;");
            E.due("never but at once", never.chance(0, n, 0), n == 0 ? 1 : 0);
            E.due("never", never.chance(0, n, 1), 1);
            FordLine always = ford("river 1;person reach 1 strength 9 at 1;");
            E.due("always", always.chance(0, n, 0), 1);
            E.due("always", always.chance(0, n, 1), 1);
        }

        E.says("Promise 39", "-2: the PERSON, what; -3: n; -5: it doesn't STAND.");
        badPeople(-2, "chance p", (x, p) -> x.chance(p, 0, 0));
        E.refusedEach(-2, "chance what", (x, what) -> x.chance(0, 1, what), -1, 2, LEAST, GREATEST);
        E.refusedEach(-3, "chance n", (x, n) -> x.chance(0, n, 0), -1, 7, LEAST, GREATEST);
        E.refused(-5, "on the near bank", x -> x.chance(1, 0, 0));
        E.refused(-5, "on the far bank", x -> x.chance(3, 6, 1));
        E.refused(-2, "-2 ahead of -3", x -> x.chance(0, 7, 2));
        E.refused(-2, "-2 ahead of -3", x -> x.chance(4, 7, 0));
        E.refused(-2, "-2 ahead of -5", x -> x.chance(1, 1, 2));
        E.refused(-3, "-3 ahead of -5", x -> x.chance(1, 7, 0));
        E.refused(-3, "-3 ahead of -5", x -> x.chance(3, -1, 0));

        E.says("Promise 40", "How many STAND on the mean behind n SPRINGS, what 0: above, 1: below, in lowest terms.");
        int[] above = {2, 3, 113, 171, 6497, 1983, 379793};
        int[] below = {1, 2, 100, 200, 10000, 4000, 1000000};
        for (int n = 0; n <= 6; n++) {
            int many = n;
            E.unchanged(above[n], "mean(" + n + ",0)", x -> x.mean(many, 0));
            E.unchanged(below[n], "mean(" + n + ",1)", x -> x.mean(many, 1));
        }
        FordLine four = ford("river 4;person reach 1 strength 9 at 1;person reach 1 strength 9 at 2;"
                + "person reach 1 strength 9 at 3;person reach 1 strength 9 at 4;");
        E.due("all four", four.mean(6, 0), 4);
        E.due("all four", four.mean(6, 1), 1);
        E.due("nobody", new FordLine().mean(6, 0), 0);
        E.due("nobody", new FordLine().mean(6, 1), 1);
        E.due("who is on a bank doesn't", ford("river 1;person reach 1;person reach 1 at 2;").mean(0, 0), 0);

        E.says("Promise 40", "-2: what; -3: n.");
        E.refusedEach(-2, "mean what", (x, what) -> x.mean(1, what), -1, 2, LEAST, GREATEST);
        E.refusedEach(-3, "mean n", (x, n) -> x.mean(n, 1), -1, 7, LEAST, GREATEST);
        E.refused(-2, "-2 ahead of -3", x -> x.mean(7, 2));
        E.in(FordLine::new);
        E.refusedEach(-2, "mean what", (x, what) -> x.mean(7, what), -1, 2);
        E.refusedEach(-3, "mean n", (x, n) -> x.mean(n, 0), -1, 7);
    }

    // ---- the terms

    private static final String LAWFUL = "river 5;depth 1 4 2 6 3;tide 4;person reach 2 strength 6 family 1 at 2;"
            + "person reach 1 strength 3 family 1 at 3;person reach 3 strength 5 family 2;person reach 2 strength 7 at 5;"
            + "holds:strength+beside*2>water+depth-spot;trusts:family=theirs or stone>gap+3;";

    /** What can be asked of all that is now. */
    private static List<ToLongFunction<FordLine>> questions() {
        List<ToLongFunction<FordLine>> all = new ArrayList<>();
        for (int set : new int[] {1, 6, 15}) {
            all.addAll(List.of(x -> x.soonest(set), x -> x.way(set, 0), x -> x.way(set, 1), x -> x.rows(set, 4),
                    x -> x.needed(set), x -> x.movers(set)));
        }
        for (int i = 0; i < 4; i++) {
            int p = i;
            all.addAll(List.of(x -> x.person(p, 4), x -> x.stride(p), x -> x.least(p), x -> x.forces(p), x -> x.best(p),
                    x -> x.pairs(10 + p), x -> x.chance(p, 2, 0), x -> x.order(p), x -> x.reach(p)));
        }
        for (int i = 0; i <= 9; i++) {
            int water = i;
            all.addAll(List.of(x -> x.swept(water), x -> x.looks(water)));
        }
        all.addAll(List.of(x -> x.calm(), x -> x.orders(), x -> x.firsts(), x -> x.pairs(0), x -> x.most(), x -> x.stands(),
                x -> x.mean(3, 0), x -> x.mean(3, 1), x -> x.rows(0, 3), x -> x.rows(0, 2)));
        return all;
    }

    private static long[] answers(FordLine x) {
        return questions().stream().mapToLong(q -> q.applyAsLong(x)).toArray();
    }

    /** Whatever was asked ahead, what is asked behind some DEEDS is as if it had not been: all at once, and each alone. */
    private static void asIsNow(String what, Consumer<FordLine> first, Consumer<FordLine> then) {
        FordLine fresh = ford(LAWFUL);
        first.accept(fresh);
        then.accept(fresh);
        long[] due = answers(fresh);
        FordLine x = ford(LAWFUL);
        first.accept(x);
        answers(x);
        then.accept(x);
        E.right(what, Arrays.equals(answers(x), due));
        List<ToLongFunction<FordLine>> all = questions();
        for (int i = 0; i < due.length; i++) {
            FordLine y = ford(LAWFUL);
            first.accept(y);
            all.get(i).applyAsLong(y);
            then.accept(y);
            E.due(what + ", question " + i, all.get(i).applyAsLong(y), due[i]);
        }
    }

    private static void fromNowOn() {
        for (int p = 0; p < 4; p++) {
            int one = p;
            for (int n = 0; n <= 9; n++) {
                int strength = n;
                asIsNow("STRENGTH of " + p, x -> { }, x -> x.strength(one, strength));
            }
            for (int to = 0; to <= 6; to++) {
                int place = to;
                asIsNow("PERSON " + p + " to " + to, x -> { }, x -> x.go(one, place));
            }
        }
        for (int s = 1; s <= 5; s++) {
            int spot = s;
            for (int deep : new int[] {0, 5, 9}) asIsNow("DEPTH of " + s, x -> { }, x -> x.depth(spot, deep));
        }
        for (int water = 0; water <= 9; water++) {
            int w = water;
            asIsNow("FLOOD of " + w, x -> { }, x -> x.flood(w));
            asIsNow("UNDONE", x -> x.flood(w), x -> x.undo(1));
        }
        asIsNow("UNDONE", x -> x.strength(0, 0), x -> x.undo(1));
        asIsNow("UNDONE", x -> x.depth(2, 0), x -> x.undo(1));
        for (int seed = 0; seed < 20; seed++) {
            int one = seed;
            asIsNow("SEASON", x -> x.season(one, 3), x -> x.season(one, 5));
        }
        asIsNow("another river", x -> { }, x -> Edges.tell(x, LAWFUL.replace("strength 7", "strength 1")));
        asIsNow("another law", x -> { }, x -> Edges.tell(x, LAWFUL.replace("stone>", "stone<")));
        asIsNow("another law", x -> { }, x -> Edges.tell(x, LAWFUL.replace("beside*2", "beside*0")));
        asIsNow("fewer PEOPLE", x -> { }, x -> Edges.tell(x, "river 5;person reach 2;person reach 1 at 3;"));
        asIsNow("more PEOPLE", x -> Edges.tell(x, "river 5;person reach 2;person reach 1 at 3;"), x -> Edges.tell(x, LAWFUL));
        asIsNow("an IMAGE", x -> {
            x.image(0);
            x.strength(0, 1);
            x.depth(2, 9);
            x.go(1, 4);
        }, x -> x.restore(0));
    }

    private static void terms() {
        E.says("Terms 3", "A ROW: GOINGS (told as DEEDS) from now on, one behind the other, nothing else being done.");
        fromNowOn();
        E.due("no GOING", ford(WIDE).rows(0, 0), 1);
        E.due("told as DEEDS", ford("river 1;person reach 1;person reach 2;").way(2, 0), 12);
        E.due("nobody is swept meanwhile", ford("river 3;tide 9;person reach 1 strength 0;holds:1=2;").soonest(1), 4);
        FordLine moved = ford("river 3;person reach 1;");
        moved.go(0, 1);
        moved.go(0, 2);
        E.due("from now on", moved.soonest(1), 2);

        E.says("Terms 3", "COMING OVER of a set of PEOPLE: a ROW behind which all of these are on the far bank: the fewest "
                + "GOINGS, of like ones the first.");
        FordLine either = ford("river 2;person reach 2;");
        E.due("by 1 or by 2", either.way(1, 0), 1);
        E.due("then over", either.way(1, 1), 3);
        FordLine both = ford("river 1;person reach 2;person reach 2;");
        E.due("0 ahead of 1", both.way(3, 0), 2);
        E.due("then 1", both.way(3, 1), 12);
        FordLine stone = ford("river 3;person reach 2;person reach 2;");
        E.due("the fewest", stone.soonest(3), 3);
        E.due("0 as a stone at 2", stone.way(3, 0), 2);
        E.due("1 by it", stone.way(3, 1), 14);
        E.due("then 0", stone.way(3, 2), 4);
        FordLine blocked = ford("river 2;person reach 1;person reach 1 at 1;trusts:1=2;");
        E.due("1 goes back, then 0", blocked.soonest(1), 4);
        int[] round = {10, 1, 2, 3, -1};
        for (int i = 0; i < 5; i++) E.due("1 goes back, then 0", blocked.way(1, i), round[i]);
        FordLine out = ford("river 1;person reach 1 at 2;person reach 1;trusts:1=2;");
        E.due("all of these behind it", out.soonest(3), 2);
        E.due("none of the others has to be", out.soonest(1), 0);

        E.says("Terms 3", "ORDERS: if all were on the near bank, and each who STANDS now, or is on the far bank, GOES there "
                + "once, one behind the other (who is on the near bank stays): orders of these in which each can; of like "
                + "ones the first by PEOPLE.");
        FordLine back = ford("river 3;person reach 1 at 3;person reach 1 at 2;person reach 1 at 1;person reach 1;");
        E.due("one", back.orders(), 1);
        int[] order = {2, 1, 0, -1};
        for (int i = 0; i < 4; i++) E.due("from the near bank on", back.order(i), order[i]);
        FordLine free = ford("river 2;person reach 2 at 2;person reach 2 at 1;person reach 2;");
        E.due("two", free.orders(), 2);
        E.due("the first by PEOPLE", free.order(0), 0);
        FordLine late = ford("river 2;person reach 2 at 3;person reach 2 at 1;person reach 1;");
        E.due("the far bank, too", late.orders(), 1);
        E.due("behind its stone", late.order(0), 1);
        E.due("once each", ford("river 2;person reach 1 at 3;").orders(), 0);
        E.due("who stays is no stone", ford("river 2;person reach 1 at 2;person reach 1;").orders(), 0);
        E.due("in the way", ford("river 2;person reach 1 at 1;person reach 1 at 2;trusts:1=2;").orders(), 0);

        E.says("Terms 3", "FELT in a TRAY (1 to 12 numbers): 2 times a WATER, and 1 if a PERSON that STANDS HELD, else 0, "
                + "all being as they are now each time (a first look, nobody being swept): STRENGTHS 0 to 9 of it by which "
                + "it is so.");
        for (int water = 0; water <= 9; water++) {
            int from = 1023 >> water << water;
            E.due("held in " + water, felt(0, 2 * water + 1).strengths(0, 0), from);
            E.due("didn't in " + water, felt(0, 2 * water).strengths(0, 0), 1023 & ~from);
        }
        FordLine row = ford(IN_A_ROW);
        Edges.tray(row, 0, 0, 11);
        E.due("as they are now, others beside it", row.strengths(0, 1), 1023 & ~1);
        row.strength(1, 9);
        E.due("whatever it has now", row.strengths(0, 1), 1023 & ~1);
        row.flood(2);
        E.due("nobody was swept", row.strengths(0, 1), 1023 & ~1);
        E.due("each of twelve counts", felt(0, 1, 1, 1, 1, 1, 1, 1, 1, 1, 1, 1, 18).strengths(0, 0), 511);
        E.due("each of twelve counts", felt(0, 19, 1, 1, 1, 1, 1, 1, 1, 1, 1, 1, 1).strengths(0, 0), 512);
    }

    private static void moreTerms() {
        E.says("Terms 3", "PAIRS: two and two, each once at most, who TRUST each other for a STEP of 1: the most, of like "
                + "ones the first (PERSON by PERSON the one it is with, least first, none behind all).");
        String four = "river 1;person reach 1 family 0;person reach 1 family 1;person reach 1 family 2;"
                + "person reach 1 family 3;trusts:";
        E.due("for a STEP of 1", ford(four + "gap=1;").pairs(0), 2);
        E.due("not of 2", ford(four + "gap=2;").pairs(0), 0);
        E.due("each other", ford(four + "who<3 and theirs=3;").pairs(0), 0);
        E.due("each other", ford(four + "who=3 and theirs<3;").pairs(0), 0);
        FordLine all = ford(four + "1=1;");
        int[] first = {1, 0, 3, 2};
        for (int p = 0; p < 4; p++) E.due("the first", all.pairs(10 + p), first[p]);
        FordLine most = ford(four + "family+theirs=1 or family+theirs=3;");
        int[] two = {3, 2, 1, 0};
        E.due("the most", most.pairs(0), 2);
        for (int p = 0; p < 4; p++) E.due("ahead of the first", most.pairs(10 + p), two[p]);
        FordLine star = ford(four + "family=3 or theirs=3;");
        int[] one = {3, -1, -1, 0};
        E.due("each once at most", star.pairs(0), 1);
        for (int p = 0; p < 4; p++) E.due("0 with it, none behind all", star.pairs(10 + p), one[p]);
        for (int p = 0; p < 4; p++) {
            E.due("each once at most", ford(four + "family=" + p + " or theirs=" + p + ";").pairs(0), 1);
        }
        FordLine twoOfOne = ford(four + "family*theirs=2 or family*theirs=3;");
        int[] least = {-1, 2, 1, -1};
        for (int p = 0; p < 4; p++) E.due("1 with 2 or 3", twoOfOne.pairs(10 + p), least[p]);
        FordLine last = ford(four + "family+theirs=5;");
        E.due("those who are left", last.pairs(0), 1);
        int[] none = {-1, -1, 3, 2};
        for (int p = 0; p < 4; p++) E.due("those who are left", last.pairs(10 + p), none[p]);

        E.says("Terms 3", "FORCING: people and river by turns, people first: any one GOES, or none; the river FLOODS with "
                + "the TIDE, or doesn't; people FORCE a PERSON over within n turns of theirs, if they can GO so that it is "
                + "on the far bank behind one of these turns by then, whatever the river does.");
        E.due("people first", ford("river 1;tide 9;person reach 1 strength 0 at 1;").forces(0), 1);
        E.due("one GOES a turn", ford("river 1;tide 0;person reach 1;person reach 1 at 1;trusts:1=2;").forces(0), 3);
        E.due("with the TIDE", ford("river 2;tide 3;person reach 1 strength 3;").forces(0), 3);
        E.due("one more", ford("river 2;tide 4;person reach 1 strength 3;").forces(0), -1);
        String needs = "river 2;tide 6;person reach 2 strength 0;person reach 2 strength ";
        E.due("by one who holds", ford(needs + "6;").forces(0), 2);
        E.due("who has to be there first, or 0 could be swept", ford(needs + "6;").best(0), 11);
        E.due("by one who doesn't", ford(needs + "5;").forces(0), -1);
        E.due("a FLOOD isn't to be counted upon", ford("river 1;tide 5;person reach 1 strength 9;"
                + "person reach 1 strength 0 at 1;trusts:1=2;").forces(0), 3);
        FordLine way = ford("river 1;tide 5;person reach 1 strength 9;person reach 2;person reach 1 strength 1 family 2 at 1;"
                + "trusts:family=theirs;");
        E.due("nor is it helped by one: 2 out of the way, then twice 0", way.forces(0), 3);
        E.due("1 going over first would need a FLOOD", way.best(0), 20);
        FordLine lucky = ford("river 3;tide 5;person reach 1 strength 9 at 1;person reach 1 strength 9 at 2;"
                + "person reach 1;trusts:1=2;");
        E.due("two in the way", lucky.forces(2), 2 + 1 + 4);

        E.says("Terms 3", "SPRINGS: n times (0 to 6) a FLOOD, its WATER 0 to 9, each as likely.");
        for (int strength = 0; strength <= 9; strength++) {
            FordLine x = ford("river 1;person reach 1 strength " + strength + " at 1;");
            int common = strength == 9 ? 10 : (strength + 1) % 5 == 0 ? 5 : strength % 2 == 1 ? 2 : 1;
            E.due("above", x.chance(0, 1, 0), (strength + 1) / common);
            E.due("below", x.chance(0, 1, 1), 10 / common);
        }
        FordLine low = ford("river 1;person reach 1 at 1;holds:water=0;");
        E.due("0 alone", low.chance(0, 6, 0), 1);
        E.due("0 alone", low.chance(0, 6, 1), 1000000);
        E.due("9 alone", ford("river 1;person reach 1 at 1;holds:water=9;").chance(0, 6, 1), 1000000);
        FordLine pair = ford("river 2;person reach 1 strength 4 at 1;person reach 1 strength 4 at 2;"
                + "holds:water<5 or who=0 and beside=1 and water<6;");
        E.due("who was swept stays so", pair.chance(0, 2, 0), 1);
        E.due("who was swept stays so", pair.chance(0, 2, 1), 4);
    }

    /** A DRAW by the rest of 1103515245 x + 12345 below 2 to the 32, halved 16 times. */
    private static int draw(long[] x) {
        x[0] = (1103515245L * x[0] + 12345L) & 0xffffffffL;
        return (int) (x[0] >> 16);
    }

    private static void season() {
        E.says("Terms 3", "A SEASON by a SEED (x, an int; a DRAW: x becomes 1103515245 x + 12345, it is x >>> 16): so many "
                + "times (1 to 40): DRAW modulo 6: 0 to 3 PERSON DRAW modulo 4 GOES to PLACE DRAW modulo 8; 4 a FLOOD of "
                + "WATER DRAW modulo 10; 5 PERSON DRAW modulo 4 has STRENGTH DRAW modulo 10; as in a TRAY, if it can be.");
        String[] rivers = {WIDE, "river 3;person reach 1;person reach 2 at 2;", "river 1;"};
        int[] seeds = {0, 1, -1, 2, 12345, LEAST, GREATEST, 1 << 16, 1 << 30, -12345, 777, -1000000007};
        for (String river : rivers) {
            for (int seed : seeds) {
                for (int times : new int[] {1, 2, 39, 40}) {
                    FordLine x = ford(river);
                    FordLine twin = ford(river);
                    int could = simulated(twin, seed, times);
                    E.due("season(" + seed + "," + times + ")", x.season(seed, times), could);
                    for (int p = 0; p < 4; p++) E.due("PLACE", x.person(p, 0), twin.person(p, 0));
                    for (int p = 0; p < 4; p++) E.due("STRENGTH", x.person(p, 2), twin.person(p, 2));
                    E.due("as a whole", x.count(6), could > 0 ? 1 : 0);
                }
            }
        }
    }

    private static int simulated(FordLine x, int seed, int times) {
        long[] state = {seed & 0xffffffffL};
        int could = 0;
        for (int i = 0; i < times; i++) {
            int kind = draw(state) % 6;
            int answer;
            if (kind <= 3) {
                int p = draw(state) % 4;
                answer = x.go(p, draw(state) % 8);
            } else if (kind == 4) {
                answer = x.flood(draw(state) % 10);
            } else {
                int p = draw(state) % 4;
                answer = x.strength(p, draw(state) % 10);
            }
            could += answer >= 0 ? 1 : 0;
        }
        return could;
    }

    public static void main(String[] args) {
        promise18();
        promise19();
        promise20();
        promise21();
        promise22();
        promises23To25();
        promise26();
        promise27();
        promise28();
        promises29And30();
        promises31To33();
        promises34And35();
        promise36();
        promises37And38();
        promises39And40();
        terms();
        moreTerms();
        season();
        E.end(Edges.promises(18, 40, "Terms 3"));
    }
}
