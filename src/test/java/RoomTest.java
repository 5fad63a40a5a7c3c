import com.sun.management.ThreadMXBean;
import java.lang.management.ManagementFactory;
import java.util.Random;

/** That 512 of the dearest calls stay in a small room and end soon, and that no argument makes a call throw. */
public final class RoomTest {
    private static final String BIG = "river 6;tide 4;person reach 1 strength 2;person reach 2 strength 5;"
            + "person reach 3 strength 7 family 1;person reach 4 strength 9;"
            + "holds : strength + beside * 2 > water;trusts : family = theirs or stone > gap + 1;";
    private static final int[] ODD = {0, 1, -1, 2, 3, 4, 5, 6, 7, 8, 9, 10, 11, 12, 13, 14, 15, 16, 31, 32, 40, 41, 63, 64,
        99, 100, 1000, 4095, 4096, -2, -3, 65536, 1 << 30, Integer.MIN_VALUE, Integer.MAX_VALUE, -2147483647};

    private static int feed(FordLine x, String text) {
        for (int from = 0; from < text.length(); from += 20) {
            int[] ints = new int[5];
            for (int i = 0; i < 20; i++) {
                char c = from + i < text.length() ? text.charAt(from + i) : ' ';
                ints[i / 4] = ints[i / 4] << 8 | c & 255;
            }
            x.feed(ints[0], ints[1], ints[2], ints[3], ints[4]);
        }
        return x.river(text.length());
    }

    private static long call(FordLine x, int which, int a, int b, int c) {
        switch (which) {
            case 0: return x.feed(a, b, c, a, b);
            case 1: return x.river(a);
            case 2: return x.fault(a);
            case 3: return x.person(a, b);
            case 4: return x.spot(a, b);
            case 5: return x.trusts(a, b, c);
            case 6: return x.holds(a, b);
            case 7: return x.steps(a, b);
            case 8: return x.go(a, b);
            case 9: return x.flood(a);
            case 10: return x.strength(a, b);
            case 11: return x.depth(a, b);
            case 12: return x.undo(a);
            case 13: return x.judge(a, b);
            case 14: return x.perform(a);
            case 15: return x.season(a, b);
            case 16: return x.soonest(a);
            case 17: return x.way(a, b);
            case 18: return x.rows(a, b);
            case 19: return x.needed(a);
            case 20: return x.movers(a);
            case 21: return x.most();
            case 22: return x.reach(a);
            case 23: return x.stands();
            case 24: return x.stride(a);
            case 25: return x.swept(a);
            case 26: return x.least(a);
            case 27: return x.calm();
            case 28: return x.looks(a);
            case 29: return x.orders();
            case 30: return x.order(a);
            case 31: return x.firsts();
            case 32: return x.strengths(a, b);
            case 33: return x.attempt(a, b);
            case 34: return x.pairs(a);
            case 35: return x.forces(a);
            case 36: return x.best(a);
            case 37: return x.chance(a, b, c);
            case 38: return x.mean(a, b);
            case 39: return x.numbers(a, b, c);
            case 40: return x.write(a, b, (long) c << (a & 63));
            case 41: return x.lists(a, b);
            case 42: return x.image(a);
            case 43: return x.restore(a);
            default: return x.count(a);
        }
    }

    private static void nothingThrows() {
        Random random = new Random(7);
        for (int run = 0; run < 60; run++) {
            FordLine x = new FordLine();
            if (run % 3 != 0) feed(x, run % 3 == 1 ? BIG : "river 2;person reach 2 at 1;person reach 1;");
            for (int i = 0; i < 450; i++) {
                call(x, random.nextInt(45), ODD[random.nextInt(ODD.length)], ODD[random.nextInt(ODD.length)],
                        ODD[random.nextInt(ODD.length)]);
            }
        }
    }

    private static long allocated() {
        ThreadMXBean bean = (ThreadMXBean) ManagementFactory.getThreadMXBean();
        return bean.getThreadAllocatedBytes(Thread.currentThread().getId());
    }

    /** Elements are 4 or 8 bytes here, so 7.3 million of them are far more than this. */
    private static boolean staysSmall() {
        FordLine warm = new FordLine();
        feed(warm, BIG);
        warm.season(1, 40);
        long before = allocated();
        FordLine x = new FordLine();
        long made = allocated() - before;
        feed(x, BIG);
        int[] dearest = {20, 18, 36, 35, 19, 15, 23, 17, 41, 38, 10};
        x.numbers(1, 1, 40);
        for (int i = 0; i < 440; i++) {
            int which = dearest[i % dearest.length];
            int a = which == 20 || which == 19 || which == 17 ? 15 : i % 4;
            call(x, which, a, which == 18 ? 10 : which == 15 ? 40 : i % 6, i % 2);
        }
        long all = allocated() - before;
        System.out.println("a new object: " + made + " bytes; 512 dear calls: " + all + " bytes");
        return made < 40_000 && all < 1_000_000;
    }

    public static void main(String[] args) {
        nothingThrows();
        if (!staysSmall()) System.exit(1);
    }
}
