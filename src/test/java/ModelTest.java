import java.util.Random;

/** Runs of made-up calls, each answer held against the Model's. */
public final class ModelTest {
    private final Random random;
    private final Texts texts;
    private final FordLine real = new FordLine();
    private final Model model = new Model();
    private final StringBuilder log = new StringBuilder();
    private boolean right = true;
    private static int calls = 0;

    private ModelTest(long seed) {
        random = new Random(seed);
        texts = new Texts(random);
    }

    private int below(int n) {
        return random.nextInt(n);
    }

    /** Mostly something that there is, at times something odd. */
    private int about(int low, int high) {
        int odd = below(24);
        if (odd == 0) return low - 1;
        if (odd == 1) return high + 1;
        if (odd == 2 && below(4) == 0) return below(2) == 0 ? Integer.MIN_VALUE : Integer.MAX_VALUE;
        return low + below(high - low + 1);
    }

    private int aPerson() { return about(0, Math.max(0, model.count(1) - 1)); }
    private int aPlace() { return about(0, model.count(0) + 1); }
    private int aSet() { return about(0, (1 << model.count(1)) - 1); }
    private int aTray() { return about(0, 3); }

    private void same(String call, long got, long want) {
        calls++;
        log.append(call).append(" -> ").append(want).append('\n');
        if (got != want && right) {
            right = false;
            System.out.println(log.substring(Math.max(0, log.length() - 2000)));
            System.out.println("WRONG: " + call + " answered " + got + ", due is " + want);
        }
    }

    private void feed(String text) {
        for (int from = 0; from < text.length(); from += 20) {
            int[] ints = new int[5];
            for (int i = 0; i < 20; i++) {
                char c = from + i < text.length() ? text.charAt(from + i) : ' ';
                ints[i / 4] = ints[i / 4] << 8 | c & 255;
            }
            same("feed", real.feed(ints[0], ints[1], ints[2], ints[3], ints[4]), model.feed(ints));
        }
    }

    private void river(String text) {
        log.append(text).append('\n');
        int before = model.count(7);
        feed(text);
        int n = text.length() <= 900 ? text.length() : 900;
        if (before > 0) n = model.count(7);
        same("river(" + n + ")", real.river(n), model.river(n));
        same("fault(0)", real.fault(0), model.fault(0));
        same("fault(1)", real.fault(1), model.fault(1));
    }

    private void all(String when) {
        for (int what = -1; what <= 9; what++) same(when + "count(" + what + ")", real.count(what), model.count(what));
        for (int p = 0; p < model.count(1); p++) {
            for (int what = 0; what <= 4; what++) {
                same("person(" + p + "," + what + ")", real.person(p, what), model.person(p, what));
            }
        }
        for (int s = 1; s <= model.count(0); s++) {
            for (int what = 0; what <= 1; what++) {
                same("spot(" + s + "," + what + ")", real.spot(s, what), model.spot(s, what));
            }
        }
    }

    private void call() {
        int a;
        int b;
        int c;
        switch (below(46)) {
            case 0: a = about(0, 2); same("fault(" + a + ")", real.fault(a), model.fault(a)); break;
            case 1: a = aPerson(); b = about(0, 4); same("person(" + a + "," + b + ")", real.person(a, b), model.person(a, b)); break;
            case 2: a = aPlace(); b = about(0, 1); same("spot(" + a + "," + b + ")", real.spot(a, b), model.spot(a, b)); break;
            case 3: a = aPerson(); b = aPerson(); c = about(1, 4); same("trusts(" + a + "," + b + "," + c + ")", real.trusts(a, b, c), model.trusts(a, b, c)); break;
            case 4: a = aPerson(); b = about(0, 9); same("holds(" + a + "," + b + ")", real.holds(a, b), model.holds(a, b)); break;
            case 5: a = aPerson(); b = aPlace(); same("steps(" + a + "," + b + ")", real.steps(a, b), model.steps(a, b)); break;
            case 6: case 7: case 8: a = aPerson(); b = aPlace(); same("go(" + a + "," + b + ")", real.go(a, b), model.go(a, b)); break;
            case 9: a = about(0, 9); same("flood(" + a + ")", real.flood(a), model.flood(a)); break;
            case 10: a = aPerson(); b = about(0, 9); same("strength(" + a + "," + b + ")", real.strength(a, b), model.strength(a, b)); break;
            case 11: a = aPlace(); b = about(0, 9); same("depth(" + a + "," + b + ")", real.depth(a, b), model.depth(a, b)); break;
            case 12: a = about(1, below(4) == 0 ? 10 : 2); same("undo(" + a + ")", real.undo(a), model.undo(a)); break;
            case 13: a = aTray(); b = about(0, 3); same("judge(" + a + "," + b + ")", real.judge(a, b), model.judge(a, b)); break;
            case 14: a = aTray(); same("perform(" + a + ")", real.perform(a), model.perform(a)); break;
            case 15: a = random.nextInt(); b = about(1, below(2) == 0 ? 3 : 40); same("season(" + a + "," + b + ")", real.season(a, b), model.season(a, b)); break;
            case 16: a = aSet(); same("soonest(" + a + ")", real.soonest(a), model.soonest(a)); break;
            case 17: a = aSet(); b = about(0, 6); same("way(" + a + "," + b + ")", real.way(a, b), model.way(a, b)); break;
            case 18: a = aSet(); b = about(0, 10); same("rows(" + a + "," + b + ")", real.rows(a, b), model.rows(a, b)); break;
            case 19: a = aSet(); same("needed(" + a + ")", real.needed(a), model.needed(a)); break;
            case 20: a = aSet(); same("movers(" + a + ")", real.movers(a), model.movers(a)); break;
            case 21: same("most()", real.most(), model.most()); break;
            case 22: a = aPerson(); same("reach(" + a + ")", real.reach(a), model.reach(a)); break;
            case 23: same("stands()", real.stands(), model.stands()); break;
            case 24: a = aPerson(); same("stride(" + a + ")", real.stride(a), model.stride(a)); break;
            case 25: a = about(0, 9); same("swept(" + a + ")", real.swept(a), model.swept(a)); break;
            case 26: a = aPerson(); same("least(" + a + ")", real.least(a), model.least(a)); break;
            case 27: same("calm()", real.calm(), model.calm()); break;
            case 28: a = about(0, 9); same("looks(" + a + ")", real.looks(a), model.looks(a)); break;
            case 29: same("orders()", real.orders(), model.orders()); break;
            case 30: a = about(0, 4); same("order(" + a + ")", real.order(a), model.order(a)); break;
            case 31: same("firsts()", real.firsts(), model.firsts()); break;
            default: otherCall(); break;
        }
    }

    private void otherCall() {
        int a;
        int b;
        int c;
        switch (below(14)) {
            case 0: felt(); break;
            case 1: a = aTray(); b = aPerson(); same("strengths(" + a + "," + b + ")", real.strengths(a, b), model.strengths(a, b)); break;
            case 2: a = below(3) == 0 ? 0 : 10 + aPerson(); same("pairs(" + a + ")", real.pairs(a), model.pairs(a)); break;
            case 3: a = aPerson(); same("forces(" + a + ")", real.forces(a), model.forces(a)); break;
            case 4: a = aPerson(); same("best(" + a + ")", real.best(a), model.best(a)); break;
            case 5: a = aPerson(); b = about(0, 6); c = about(0, 1); same("chance(" + a + "," + b + "," + c + ")", real.chance(a, b, c), model.chance(a, b, c)); break;
            case 6: a = about(0, 6); b = about(0, 1); same("mean(" + a + "," + b + ")", real.mean(a, b), model.mean(a, b)); break;
            case 7: a = aTray(); b = about(0, 3); c = about(0, 40); same("numbers(" + a + "," + b + "," + c + ")", real.numbers(a, b, c), model.numbers(a, b, c)); break;
            case 8: deeds(); break;
            case 9: a = aTray(); b = about(0, 40); long v = random.nextLong() >> below(64); same("write(" + a + "," + b + "," + v + ")", real.write(a, b, v), model.write(a, b, v)); break;
            case 10: a = aTray(); b = aSet(); same("lists(" + a + "," + b + ")", real.lists(a, b), model.lists(a, b)); break;
            case 11: a = about(0, 1); same("image(" + a + ")", real.image(a), model.image(a)); break;
            case 12: a = about(0, 1); same("restore(" + a + ")", real.restore(a), model.restore(a)); break;
            default: a = about(0, 8); same("count(" + a + ")", real.count(a), model.count(a)); break;
        }
    }

    private void write(int tray, int i, long v) {
        same("write(" + tray + "," + i + "," + v + ")", real.write(tray, i, v), model.write(tray, i, v));
    }

    private void felt() {
        int tray = below(4);
        int many = below(12) == 0 ? 13 : 1 + below(3);
        same("numbers(" + tray + ",0," + many + ")", real.numbers(tray, 0, many), model.numbers(tray, 0, many));
        for (int i = 0; i < many; i++) write(tray, i, below(30) == 0 ? 20 : below(20));
        int p = aPerson();
        same("strengths(" + tray + "," + p + ")", real.strengths(tray, p), model.strengths(tray, p));
        same("attempt(" + tray + "," + p + ")", real.attempt(tray, p), model.attempt(tray, p));
    }

    private void deeds() {
        int tray = below(4);
        int sort = 1 + below(3);
        int many = below(8);
        same("numbers", real.numbers(tray, sort, many), model.numbers(tray, sort, many));
        for (int i = 0; i < many; i++) {
            int p = below(Math.max(1, model.count(1)));
            switch (below(6)) {
                case 0: write(tray, i, 100 + below(10)); break;
                case 1: write(tray, i, 200 + 10 * p + below(10)); break;
                case 2: write(tray, i, 300 + 10 * (1 + below(model.count(0))) + below(10)); break;
                case 3: write(tray, i, below(3) == 0 ? below(450) - 20 : 10 * p + below(8)); break;
                default: write(tray, i, 10 * p + below(model.count(0) + 2)); break;
            }
        }
        for (int what = 0; what <= 3; what++) {
            same("judge(" + tray + "," + what + ")", real.judge(tray, what), model.judge(tray, what));
        }
        if (below(2) == 0) same("perform(" + tray + ")", real.perform(tray), model.perform(tray));
    }

    private boolean run(int mostPeople, int mostSpots) {
        all("at first ");
        for (int part = 0; part < 3 && right; part++) {
            String text = texts.right(mostPeople, mostSpots);
            for (int i = below(6); i > 0 && right; i--) {
                river(texts.wrong(text));
                all("");
            }
            river(text);
            for (int i = 0; i < 40 && right; i++) call();
            if (right) all("");
        }
        return right;
    }

    public static void main(String[] args) {
        int many = args.length > 0 ? Integer.parseInt(args[0]) : 300;
        long first = args.length > 1 ? Long.parseLong(args[1]) : 1;
        int wrong = 0;
        for (long seed = first; seed < first + many && wrong < 3; seed++) {
            boolean big = seed % 10 == 0;
            if (!new ModelTest(seed).run(big ? 4 : 3, big ? 6 : 4)) {
                System.out.println("seed " + seed);
                wrong++;
            }
        }
        System.out.println(calls + " calls, " + wrong + " runs wrong");
        if (wrong > 0) System.exit(1);
    }
}
