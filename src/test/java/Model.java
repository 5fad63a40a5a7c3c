import java.math.BigInteger;
import java.util.ArrayDeque;
import java.util.ArrayList;
import java.util.Arrays;
import java.util.HashMap;
import java.util.LinkedHashMap;
import java.util.LinkedHashSet;
import java.util.List;
import java.util.Map;
import java.util.Set;
import java.util.function.ToIntFunction;

/** The document once more, as plainly as the Java library lets one say it; FordLine is held against it. */
final class Model {
    static final int NONE = -1;

    // ---- the text

    static final class Fault extends RuntimeException {
        private static final long serialVersionUID = 1L;
        final int kind;
        final int place;
        Fault(int kind, int place) {
            super("fault " + kind + " at " + place);
            this.kind = kind;
            this.place = place;
        }
    }

    record Token(char sort, String text, int place) { }

    interface Truth { boolean of(Map<String, Integer> env); }

    static final class Told {
        int spots = 1;
        int tide = 5;
        int lines = 0;
        final List<Integer> reach = new ArrayList<>();
        final List<Integer> family = new ArrayList<>();
        final State start = new State();
        Truth holds;
        Truth trusts;
        int people() { return reach.size(); }
        int far() { return spots + 1; }
    }

    static final class State {
        final List<Integer> places = new ArrayList<>();
        final List<Integer> strengths = new ArrayList<>();
        final List<Integer> depths = new ArrayList<>();
        State copy() {
            State s = new State();
            s.places.addAll(places);
            s.strengths.addAll(strengths);
            s.depths.addAll(depths);
            return s;
        }
    }

    /** Sorts: w word, n number, s sign, e end, b what begins no token. */
    static List<Token> tokens(String text) {
        List<Token> all = new ArrayList<>();
        int i = 0;
        while (i < text.length()) {
            char c = text.charAt(i);
            int from = i;
            if (c == ' ' || c == '\n') {
                i++;
                continue;
            }
            if (c >= 'a' && c <= 'z') {
                while (i < text.length() && text.charAt(i) >= 'a' && text.charAt(i) <= 'z') i++;
                all.add(new Token('w', text.substring(from, i), from));
            } else if (c >= '0' && c <= '9') {
                while (i < text.length() && text.charAt(i) >= '0' && text.charAt(i) <= '9') i++;
                all.add(new Token(i - from > 3 ? 'b' : 'n', text.substring(from, i), from));
            } else {
                i++;
                all.add(new Token(";:+-*()[]=<>".indexOf(c) >= 0 ? 's' : 'b', "" + c, from));
            }
        }
        all.add(new Token('e', "", text.length()));
        return all;
    }

    static final class Parser {
        final List<Token> tokens;
        int at = 0;
        final Told told = new Told();
        Parser(String text) { tokens = tokens(text); }

        Token peek() { return tokens.get(at); }
        boolean is(String text) { return (peek().sort == 'w' || peek().sort == 's') && peek().text.equals(text); }
        Fault cant() { return new Fault(peek().sort == 'b' ? 1 : 2, peek().place); }
        void eat(String text) {
            if (!is(text)) throw cant();
            at++;
        }
        int number(int low, int high) {
            if (peek().sort != 'n') throw cant();
            int n = Integer.parseInt(peek().text);
            if (n < low || n > high) throw new Fault(3, peek().place);
            at++;
            return n;
        }

        Told parse() {
            eat("river");
            told.spots = number(1, 6);
            eat(";");
            told.lines = 1;
            for (int s = 0; s < told.spots; s++) told.start.depths.add(0);
            while (peek().sort != 'e') {
                line();
                eat(";");
                told.lines++;
            }
            return told;
        }

        void line() {
            if (is("depth")) {
                at++;
                for (int s = 0; s < told.spots; s++) told.start.depths.set(s, number(0, 9));
            } else if (is("tide")) {
                at++;
                told.tide = number(0, 9);
            } else if (is("person")) {
                person();
            } else if (is("holds")) {
                at++;
                eat(":");
                told.holds = truth(List.of("who", "strength", "spot", "depth", "beside", "water"), 0);
            } else if (is("trusts")) {
                at++;
                eat(":");
                told.trusts = truth(List.of("who", "strength", "family", "theirs", "stone", "gap"), 0);
            } else {
                throw cant();
            }
        }

        void person() {
            if (told.people() == 4) throw new Fault(4, peek().place);
            at++;
            eat("reach");
            int reach = number(1, 4);
            int strength = 5;
            int family = 0;
            int place = 0;
            while (true) {
                if (is("strength")) {
                    at++;
                    strength = number(0, 9);
                } else if (is("family")) {
                    at++;
                    family = number(0, 9);
                } else if (is("at")) {
                    at++;
                    Token t = peek();
                    int n = number(0, told.spots + 1);
                    if (n >= 1 && n <= told.spots && told.start.places.contains(n)) throw new Fault(3, t.place);
                    place = n;
                } else {
                    break;
                }
            }
            told.reach.add(reach);
            told.family.add(family);
            told.start.places.add(place);
            told.start.strengths.add(strength);
        }

        Truth truth(List<String> words, int deep) {
            Truth left = both(words, deep);
            while (is("or")) {
                at++;
                Truth a = left;
                Truth b = both(words, deep);
                left = e -> a.of(e) || b.of(e);
            }
            return left;
        }

        Truth both(List<String> words, int deep) {
            Truth left = unit(words, deep);
            while (is("and")) {
                at++;
                Truth a = left;
                Truth b = unit(words, deep);
                left = e -> a.of(e) && b.of(e);
            }
            return left;
        }

        void deeper(int deep) {
            if (deep == 6) throw new Fault(4, peek().place);
            at++;
        }

        Truth unit(List<String> words, int deep) {
            if (is("not")) {
                deeper(deep);
                Truth t = unit(words, deep + 1);
                return e -> !t.of(e);
            }
            if (is("[")) {
                deeper(deep);
                Truth t = truth(words, deep + 1);
                eat("]");
                return t;
            }
            ToIntFunction<Map<String, Integer>> a = sum(words, deep);
            String sign = peek().text;
            if (!is("=") && !is("<") && !is(">")) throw cant();
            at++;
            ToIntFunction<Map<String, Integer>> b = sum(words, deep);
            return e -> {
                int x = a.applyAsInt(e);
                int y = b.applyAsInt(e);
                return sign.equals("=") ? x == y : sign.equals("<") ? x < y : x > y;
            };
        }

        static int kept(BigInteger n) {
            BigInteger bound = BigInteger.valueOf(1_000_000);
            return n.min(bound).max(bound.negate()).intValueExact();
        }

        ToIntFunction<Map<String, Integer>> sum(List<String> words, int deep) {
            ToIntFunction<Map<String, Integer>> left = term(words, deep);
            while (is("+") || is("-")) {
                boolean plus = is("+");
                at++;
                ToIntFunction<Map<String, Integer>> a = left;
                ToIntFunction<Map<String, Integer>> b = term(words, deep);
                left = e -> {
                    BigInteger x = BigInteger.valueOf(a.applyAsInt(e));
                    BigInteger y = BigInteger.valueOf(b.applyAsInt(e));
                    return kept(plus ? x.add(y) : x.subtract(y));
                };
            }
            return left;
        }

        ToIntFunction<Map<String, Integer>> term(List<String> words, int deep) {
            ToIntFunction<Map<String, Integer>> left = atom(words, deep);
            while (is("*")) {
                at++;
                ToIntFunction<Map<String, Integer>> a = left;
                ToIntFunction<Map<String, Integer>> b = atom(words, deep);
                left = e -> kept(BigInteger.valueOf(a.applyAsInt(e)).multiply(BigInteger.valueOf(b.applyAsInt(e))));
            }
            return left;
        }

        ToIntFunction<Map<String, Integer>> atom(List<String> words, int deep) {
            Token t = peek();
            if (t.sort == 'n') {
                at++;
                int n = Integer.parseInt(t.text);
                return e -> n;
            }
            if (t.sort == 'w' && words.contains(t.text)) {
                at++;
                return e -> e.get(t.text);
            }
            if (is("(")) {
                deeper(deep);
                ToIntFunction<Map<String, Integer>> inner = sum(words, deep + 1);
                eat(")");
                return inner;
            }
            throw cant();
        }
    }

    // ---- what an object holds

    private final StringBuilder tape = new StringBuilder();
    private Told told = new Told();
    private State now = new State();
    private final List<State> past = new ArrayList<>();
    private int fault = 0;
    private int faultPlace = NONE;
    private final long[][] trays = new long[4][];
    private final int[] sorts = new int[4];
    private final Told[] imageTold = new Told[2];
    private final State[] imageState = new State[2];

    Model() {
        now.depths.add(0);
        told.start.depths.add(0);
    }

    // ---- laws, steps, floods

    private boolean person(int p) { return p >= 0 && p < told.people(); }
    private boolean spotIs(int s) { return s >= 1 && s <= told.spots; }
    private boolean place(int s) { return s >= 0 && s <= told.spots + 1; }
    private boolean bank(int s) { return s == 0 || s == told.spots + 1; }

    private boolean doesTrust(State st, int p, int q, int gap) {
        if (told.trusts == null) return true;
        return told.trusts.of(Map.of("who", p, "strength", st.strengths.get(p), "family", told.family.get(p),
                "theirs", told.family.get(q), "stone", st.strengths.get(q), "gap", gap));
    }

    private boolean doesHold(State st, int p, int strength, int water) {
        if (told.holds == null) return !(water > strength);
        int s = st.places.get(p);
        int beside = 0;
        for (int next : new int[] {s - 1, s + 1}) {
            if (spotIs(next) && st.places.contains(next)) beside++;
        }
        return told.holds.of(Map.of("who", p, "strength", strength, "spot", s, "depth", st.depths.get(s - 1),
                "beside", beside, "water", water));
    }

    private int at(State st, int s) { return st.places.indexOf(s); }

    /** The fewest STEPS by relaxing till nothing changes; 0: can't. */
    private int fewest(State st, int p, int to, int reach) {
        int from = st.places.get(p);
        if (from == to || (spotIs(to) && at(st, to) != NONE)) return 0;
        int many = told.spots + 2;
        int[] best = new int[many];
        Arrays.fill(best, 1000);
        best[from] = 0;
        for (int round = 0; round < many + 1; round++) {
            for (int a = 0; a < many; a++) {
                if (best[a] >= 1000) continue;
                for (int b = 0; b < many; b++) {
                    int gap = Math.abs(a - b);
                    if (gap == 0 || gap > reach || b == from) continue;
                    boolean last = b == to;
                    boolean between = bank(b) || (at(st, b) != NONE && at(st, b) != p && doesTrust(st, p, at(st, b), gap));
                    if (a == to) continue;
                    if (last || between) best[b] = Math.min(best[b], best[a] + 1);
                }
            }
        }
        return best[to] >= 1000 ? 0 : best[to];
    }

    private int whyNotGo(State st, int p, int to) {
        if (!person(p) || !place(to)) return 1;
        if (st.places.get(p) == to || (spotIs(to) && at(st, to) != NONE)) return 2;
        return fewest(st, p, to, told.reach.get(p)) == 0 ? 3 : 0;
    }

    /** How many looks sweep somebody. */
    private int doFlood(State st, int water) {
        int looks = 0;
        while (true) {
            List<Integer> gone = new ArrayList<>();
            for (int p = 0; p < told.people(); p++) {
                if (spotIs(st.places.get(p)) && !doesHold(st, p, st.strengths.get(p), water)) gone.add(p);
            }
            if (gone.isEmpty()) return looks;
            for (int p : gone) st.places.set(p, 0);
            looks++;
        }
    }

    private int standing(State st) {
        int bits = 0;
        for (int p = 0; p < told.people(); p++) if (spotIs(st.places.get(p))) bits |= 1 << p;
        return bits;
    }

    private int over(State st) {
        int bits = 0;
        for (int p = 0; p < told.people(); p++) if (st.places.get(p) == told.far()) bits |= 1 << p;
        return bits;
    }

    private int doDeed(State st, long v) {
        if (v >= 0 && v <= 99) {
            int p = (int) v / 10;
            int to = (int) v % 10;
            int why = whyNotGo(st, p, to);
            if (why == 0) st.places.set(p, to);
            return why;
        }
        if (v >= 100 && v <= 109) {
            doFlood(st, (int) v - 100);
            return 0;
        }
        if (v >= 200 && v <= 299) {
            int p = (int) (v - 200) / 10;
            if (!person(p)) return 1;
            st.strengths.set(p, (int) v % 10);
            return 0;
        }
        if (v >= 300 && v <= 399) {
            int s = (int) (v - 300) / 10;
            if (!spotIs(s)) return 1;
            st.depths.set(s - 1, (int) v % 10);
            return 0;
        }
        return 1;
    }

    private void remember() {
        past.add(now.copy());
        if (past.size() > 10) past.remove(0);
    }

    // ---- the river

    int feed(int... ints) {
        if (tape.length() + 20 > 900) return -5;
        for (int n : ints) for (int k = 3; k >= 0; k--) tape.append((char) (n >> 8 * k & 255));
        return tape.length();
    }

    int river(int n) {
        if (n < 0 || n > tape.length()) return -3;
        String text = tape.substring(0, n);
        tape.setLength(0);
        try {
            told = new Parser(text).parse();
        } catch (Fault f) {
            fault = f.kind;
            faultPlace = f.place;
            return -30 - fault;
        }
        fault = 0;
        faultPlace = NONE;
        now = told.start.copy();
        past.clear();
        return told.lines;
    }

    int fault(int what) { return what == 0 ? fault : what == 1 ? faultPlace : NONE; }

    int person(int p, int what) {
        if (!person(p) || what < 0 || what > 4) return -2;
        if (what == 0) return now.places.get(p);
        if (what == 1) return told.reach.get(p);
        if (what == 2) return now.strengths.get(p);
        if (what == 3) return told.family.get(p);
        int bits = 0;
        for (int to = 0; to <= told.far(); to++) if (fewest(now, p, to, told.reach.get(p)) > 0) bits |= 1 << to;
        return bits;
    }

    int spot(int s, int what) {
        if (!spotIs(s) || what < 0 || what > 1) return -2;
        return what == 0 ? now.depths.get(s - 1) : at(now, s);
    }

    int trusts(int p, int q, int gap) {
        if (!person(p) || !person(q) || p == q) return -2;
        if (gap < 1 || gap > 4) return -3;
        return doesTrust(now, p, q, gap) ? 1 : 0;
    }

    int holds(int p, int water) {
        if (!person(p)) return -2;
        if (water < 0 || water > 9) return -3;
        if (!spotIs(now.places.get(p))) return -5;
        return doesHold(now, p, now.strengths.get(p), water) ? 1 : 0;
    }

    int steps(int p, int to) {
        if (!person(p) || !place(to)) return -2;
        int few = fewest(now, p, to, told.reach.get(p));
        return few == 0 ? NONE : few;
    }

    // ---- deeds

    int go(int p, int to) {
        int why = whyNotGo(now, p, to);
        if (why != 0) return -10 - why;
        remember();
        return now.places.set(p, to);
    }

    int flood(int water) {
        if (water < 0 || water > 9) return -11;
        remember();
        int before = standing(now);
        doFlood(now, water);
        return before & ~standing(now);
    }

    int strength(int p, int n) {
        if (!person(p) || n < 0 || n > 9) return -11;
        remember();
        return now.strengths.set(p, n);
    }

    int depth(int s, int n) {
        if (!spotIs(s) || n < 0 || n > 9) return -11;
        remember();
        return now.depths.set(s - 1, n);
    }

    int undo(int n) {
        if (n < 1 || n > 10 || n > past.size()) return -3;
        for (int i = 0; i < n; i++) now = past.remove(past.size() - 1);
        return past.size();
    }

    int judge(int tray, int what) {
        if (tray < 0 || tray > 3 || what < 0 || what > 3) return -2;
        if (trays[tray] == null) return -6;
        State st = now.copy();
        int bad = NONE;
        int why = 0;
        for (int i = 0; i < trays[tray].length && bad == NONE; i++) {
            why = doDeed(st, trays[tray][i]);
            if (why != 0) bad = i;
        }
        return what == 0 ? bad : what == 1 ? why : what == 2 ? standing(st) : over(st);
    }

    int perform(int tray) {
        if (tray < 0 || tray > 3) return -2;
        if (trays[tray] == null) return -6;
        State before = now.copy();
        int many = 0;
        while (many < trays[tray].length && doDeed(now, trays[tray][many]) == 0) many++;
        if (many > 0) {
            past.add(before);
            if (past.size() > 10) past.remove(0);
        }
        return many;
    }

    int season(int seed, int times) {
        if (times < 1 || times > 40) return -3;
        State before = now.copy();
        int[] x = {seed};
        int many = 0;
        for (int i = 0; i < times; i++) {
            int kind = draw(x) % 6;
            long deed;
            if (kind <= 3) {
                int p = draw(x) % 4;
                int to = draw(x) % 8;
                deed = 10 * p + to;
            } else if (kind == 4) {
                deed = 100 + draw(x) % 10;
            } else {
                int p = draw(x) % 4;
                int n = draw(x) % 10;
                deed = 200 + 10 * p + n;
            }
            if (doDeed(now, deed) == 0) many++;
        }
        if (many > 0) {
            past.add(before);
            if (past.size() > 10) past.remove(0);
        }
        return many;
    }

    private static int draw(int[] x) {
        x[0] = x[0] * 1103515245 + 12345;
        return x[0] >>> 16;
    }

    // ---- coming over

    private boolean badSet(int set) { return set < 0 || set >= 1 << told.people(); }

    private State placed(List<Integer> places) {
        State st = now.copy();
        st.places.clear();
        st.places.addAll(places);
        return st;
    }

    private String graphOf = "";
    private Told graphTold = null;
    private final Map<List<Integer>, Map<Integer, List<Integer>>> graph = new HashMap<>();

    /** GOINGS from some PLACES, by DEEDS in their order. */
    private Map<Integer, List<Integer>> goings(List<Integer> places) {
        String key = now.strengths.toString();
        if (graphTold != told || !graphOf.equals(key)) {
            graph.clear();
            graphTold = told;
            graphOf = key;
        }
        return graph.computeIfAbsent(List.copyOf(places), from -> {
            State st = placed(from);
            Map<Integer, List<Integer>> all = new LinkedHashMap<>();
            for (int p = 0; p < told.people(); p++) {
                for (int to = 0; to <= told.far(); to++) {
                    if (fewest(st, p, to, told.reach.get(p)) > 0) {
                        List<Integer> then = new ArrayList<>(from);
                        then.set(p, to);
                        all.put(10 * p + to, List.copyOf(then));
                    }
                }
            }
            return all;
        });
    }

    private boolean allOver(List<Integer> places, int set) {
        for (int p = 0; p < told.people(); p++) if ((set >> p & 1) == 1 && places.get(p) != told.far()) return false;
        return true;
    }

    private Map<List<Integer>, Integer> levels(List<Integer> from, int movers) {
        Map<List<Integer>, Integer> level = new LinkedHashMap<>();
        ArrayDeque<List<Integer>> queue = new ArrayDeque<>();
        level.put(from, 0);
        queue.add(from);
        while (!queue.isEmpty()) {
            List<Integer> here = queue.remove();
            goings(here).forEach((deed, then) -> {
                if ((movers >> deed / 10 & 1) == 1 && !level.containsKey(then)) {
                    level.put(then, level.get(here) + 1);
                    queue.add(then);
                }
            });
        }
        return level;
    }

    private int distance(List<Integer> from, int set, int movers) {
        int best = NONE;
        for (Map.Entry<List<Integer>, Integer> e : levels(from, movers).entrySet()) {
            if (allOver(e.getKey(), set) && (best == NONE || e.getValue() < best)) best = e.getValue();
        }
        return best;
    }

    /** From each PLACES how far it is, backwards over all that can be; then forward by the least DEED. */
    private List<Integer> row(int set) {
        List<Integer> here = List.copyOf(now.places);
        Map<List<Integer>, Integer> far = new HashMap<>();
        Set<List<Integer>> all = levels(here, 15).keySet();
        for (List<Integer> one : all) if (allOver(one, set)) far.put(one, 0);
        for (int round = 1; far.size() < all.size(); round++) {
            Map<List<Integer>, Integer> more = new HashMap<>();
            for (List<Integer> one : all) {
                if (far.containsKey(one)) continue;
                for (List<Integer> then : goings(one).values()) if (far.containsKey(then)) more.put(one, round);
            }
            if (more.isEmpty()) break;
            far.putAll(more);
        }
        if (!far.containsKey(here)) return null;
        List<Integer> deeds = new ArrayList<>();
        while (far.get(here) > 0) {
            int left = far.get(here) - 1;
            for (Map.Entry<Integer, List<Integer>> e : goings(here).entrySet()) {
                if (far.containsKey(e.getValue()) && far.get(e.getValue()) == left) {
                    deeds.add(e.getKey());
                    here = e.getValue();
                    break;
                }
            }
        }
        return deeds;
    }

    int soonest(int set) { return badSet(set) ? -3 : distance(List.copyOf(now.places), set, 15); }

    int way(int set, int i) {
        if (badSet(set) || i < 0) return -3;
        List<Integer> deeds = row(set);
        return deeds == null || i >= deeds.size() ? NONE : deeds.get(i);
    }

    long rows(int set, int n) {
        if (badSet(set) || n < 0 || n > 10) return -3;
        Map<List<Integer>, Long> ways = new HashMap<>();
        ways.put(List.copyOf(now.places), 1L);
        for (int i = 0; i < n; i++) {
            Map<List<Integer>, Long> next = new HashMap<>();
            ways.forEach((places, many) -> goings(places).values().forEach(then -> next.merge(then, many, Long::sum)));
            ways = next;
        }
        long sum = 0;
        for (Map.Entry<List<Integer>, Long> e : ways.entrySet()) if (allOver(e.getKey(), set)) sum += e.getValue();
        return sum;
    }

    int needed(int set) {
        if (badSet(set)) return -3;
        List<Integer> here = List.copyOf(now.places);
        if (distance(here, set, 15) == NONE) return 0;
        int bits = 0;
        for (int p = 0; p < told.people(); p++) if (distance(here, set, 15 - (1 << p)) == NONE) bits |= 1 << p;
        return bits;
    }

    int movers(int set) {
        if (badSet(set)) return -3;
        int best = NONE;
        for (int some = 0; some < 1 << told.people(); some++) {
            if (distance(List.copyOf(now.places), set, some) == NONE) continue;
            if (best == NONE || Integer.bitCount(some) < Integer.bitCount(best)) best = some;
        }
        return best;
    }

    int most() {
        int most = 0;
        for (List<Integer> one : levels(List.copyOf(now.places), 15).keySet()) {
            most = Math.max(most, Integer.bitCount(over(placed(one))));
        }
        return most;
    }

    int reach(int p) {
        if (!person(p)) return -2;
        int bits = 0;
        for (List<Integer> one : levels(List.copyOf(now.places), 15).keySet()) bits |= 1 << one.get(p);
        return bits;
    }

    int stands() { return levels(List.copyOf(now.places), 15).size(); }

    int stride(int p) {
        if (!person(p)) return -2;
        for (int reach = 1; reach <= 9; reach++) if (fewest(now, p, told.far(), reach) > 0) return reach;
        return NONE;
    }

    // ---- water

    int swept(int water) {
        if (water < 0 || water > 9) return -3;
        State st = now.copy();
        doFlood(st, water);
        return standing(now) & ~standing(st);
    }

    int least(int p) {
        if (!person(p)) return -2;
        if (!spotIs(now.places.get(p))) return -5;
        for (int w = 0; w <= 9; w++) if ((swept(w) >> p & 1) == 1) return w;
        return NONE;
    }

    int calm() {
        int best = NONE;
        for (int w = 0; w <= 9; w++) if (swept(w) == 0) best = w;
        return best;
    }

    int looks(int water) { return water < 0 || water > 9 ? -3 : doFlood(now.copy(), water); }

    // ---- orders

    private void allOrders(List<Integer> done, Set<Integer> left, State st, List<List<Integer>> found) {
        if (left.isEmpty()) found.add(List.copyOf(done));
        for (int p : List.copyOf(left)) {
            if (whyNotGo(st, p, now.places.get(p)) != 0) continue;
            State then = st.copy();
            then.places.set(p, now.places.get(p));
            Set<Integer> rest = new LinkedHashSet<>(left);
            rest.remove(p);
            List<Integer> more = new ArrayList<>(done);
            more.add(p);
            allOrders(more, rest, then, found);
        }
    }

    private List<List<Integer>> allOrders() {
        Set<Integer> away = new LinkedHashSet<>();
        State st = now.copy();
        for (int p = 0; p < told.people(); p++) {
            if (now.places.get(p) != 0) away.add(p);
            st.places.set(p, 0);
        }
        List<List<Integer>> found = new ArrayList<>();
        allOrders(List.of(), away, st, found);
        return found;
    }

    int orders() { return allOrders().size(); }

    int order(int i) {
        if (i < 0) return -3;
        List<List<Integer>> all = allOrders();
        return all.isEmpty() || i >= all.get(0).size() ? NONE : all.get(0).get(i);
    }

    int firsts() {
        int bits = 0;
        for (List<Integer> one : allOrders()) if (!one.isEmpty()) bits |= 1 << one.get(0);
        return bits;
    }

    // ---- felt

    private int feltBad(int tray, int p) {
        if (tray < 0 || tray > 3 || !person(p)) return -2;
        if (trays[tray] == null) return -6;
        if (trays[tray].length < 1 || trays[tray].length > 12) return -4;
        for (long v : trays[tray]) if (v < 0 || v > 19) return -3;
        return spotIs(now.places.get(p)) ? 0 : -5;
    }

    int strengths(int tray, int p) {
        if (feltBad(tray, p) != 0) return feltBad(tray, p);
        int bits = 0;
        for (int s = 0; s <= 9; s++) {
            boolean so = true;
            for (long v : trays[tray]) so &= doesHold(now, p, s, (int) v / 2) == (v % 2 == 1);
            if (so) bits |= 1 << s;
        }
        return bits;
    }

    int attempt(int tray, int p) {
        int bits = strengths(tray, p);
        if (bits < 0) return bits;
        if (bits == 0) return NONE;
        int best = -1;
        int water = NONE;
        for (int w = 0; w <= 9; w++) {
            int yes = 0;
            int no = 0;
            for (int s = 0; s <= 9; s++) {
                if ((bits >> s & 1) == 0) continue;
                if (doesHold(now, p, s, w)) yes++;
                else no++;
            }
            if (Math.min(yes, no) > best) {
                best = Math.min(yes, no);
                water = w;
            }
        }
        return water;
    }

    // ---- together

    private void matings(int[] mates, int p, List<int[]> all) {
        if (p == told.people()) {
            all.add(mates.clone());
            return;
        }
        matings(mates, p + 1, all);
        for (int q = 0; q < p; q++) {
            if (mates[p] == NONE && mates[q] == NONE && doesTrust(now, p, q, 1) && doesTrust(now, q, p, 1)) {
                mates[p] = q;
                mates[q] = p;
                matings(mates, p + 1, all);
                mates[p] = NONE;
                mates[q] = NONE;
            }
        }
    }

    int pairs(int what) {
        if (what != 0 && (what < 10 || !person(what - 10))) return -2;
        int[] mates = new int[told.people()];
        Arrays.fill(mates, NONE);
        List<int[]> all = new ArrayList<>();
        matings(mates, 0, all);
        all.sort((a, b) -> {
            int size = Integer.compare(paired(b), paired(a));
            for (int p = 0; p < a.length && size == 0; p++) {
                size = Integer.compare(a[p] == NONE ? 99 : a[p], b[p] == NONE ? 99 : b[p]);
            }
            return size;
        });
        return what == 0 ? paired(all.get(0)) / 2 : all.get(0)[what - 10];
    }

    private static int paired(int[] mates) {
        int many = 0;
        for (int m : mates) if (m != NONE) many++;
        return many;
    }

    // ---- by turns

    private List<Integer> tideOn(List<Integer> places) {
        State st = placed(places);
        doFlood(st, told.tide);
        return List.copyOf(st.places);
    }

    private boolean canForce(List<Integer> places, int p, int n, Map<String, Boolean> memo) {
        if (places.get(p) == told.far()) return true;
        if (n == 0) return false;
        String key = n + "" + places;
        Boolean known = memo.get(key);
        if (known != null) return known;
        boolean can = false;
        List<List<Integer>> nexts = new ArrayList<>(goings(places).values());
        nexts.add(places);
        for (List<Integer> then : nexts) {
            if (!can && (then.get(p) == told.far()
                    || (canForce(then, p, n - 1, memo) && canForce(tideOn(then), p, n - 1, memo)))) can = true;
        }
        memo.put(key, can);
        return can;
    }

    /** Deep enough: behind as many turns without anything new there can't be anything new. */
    private static final int DEEP = 30;

    int forces(int p) {
        if (!person(p)) return -2;
        Map<String, Boolean> memo = new HashMap<>();
        for (int n = 0; n <= DEEP; n++) if (canForce(List.copyOf(now.places), p, n, memo)) return n;
        return NONE;
    }

    int best(int p) {
        if (!person(p)) return -2;
        int n = forces(p);
        if (n <= 0) return NONE;
        Map<String, Boolean> memo = new HashMap<>();
        List<Integer> here = List.copyOf(now.places);
        for (Map.Entry<Integer, List<Integer>> e : goings(here).entrySet()) {
            List<Integer> then = e.getValue();
            if (canForce(then, p, n - 1, memo) && canForce(tideOn(then), p, n - 1, memo)) return e.getKey();
        }
        return 99;
    }

    // ---- springs

    private long ways(State st, int n, int set, Map<String, Long> memo) {
        if (n == 0) return Integer.bitCount(standing(st) & set);
        String key = n + "" + st.places;
        if (memo.containsKey(key)) return memo.get(key);
        long sum = 0;
        for (int w = 0; w <= 9; w++) {
            State then = st.copy();
            doFlood(then, w);
            sum += ways(then, n - 1, set, memo);
        }
        memo.put(key, sum);
        return sum;
    }

    private int fraction(int n, int set, int what) {
        BigInteger above = BigInteger.valueOf(ways(now.copy(), n, set, new HashMap<>()));
        BigInteger below = BigInteger.TEN.pow(n);
        BigInteger common = above.gcd(below);
        return (what == 0 ? above : below).divide(common).intValueExact();
    }

    int chance(int p, int n, int what) {
        if (!person(p) || what < 0 || what > 1) return -2;
        if (n < 0 || n > 6) return -3;
        if (!spotIs(now.places.get(p))) return -5;
        return fraction(n, 1 << p, what);
    }

    int mean(int n, int what) {
        if (what < 0 || what > 1) return -2;
        if (n < 0 || n > 6) return -3;
        return fraction(n, 15, what);
    }

    // ---- trays, images

    int numbers(int tray, int sort, int n) {
        if (tray < 0 || tray > 3 || sort < 0 || sort > 3) return -2;
        if (n < 0 || n > 40) return -3;
        trays[tray] = new long[n];
        sorts[tray] = sort;
        return 0;
    }

    long write(int tray, int i, long v) {
        if (tray < 0 || tray > 3) return -2;
        if (trays[tray] == null) return -6;
        if (i < 0 || i >= trays[tray].length) return -7;
        int cut = 64 - (8 << sorts[tray]);
        trays[tray][i] = v << cut >> cut;
        return trays[tray][i];
    }

    int lists(int tray, int set) {
        if (tray < 0 || tray > 3) return -2;
        if (trays[tray] == null) return -6;
        if (badSet(set)) return -3;
        List<Integer> deeds = row(set);
        if (deeds == null) return -5;
        int many = Math.min(deeds.size(), trays[tray].length);
        for (int i = 0; i < many; i++) trays[tray][i] = deeds.get(i);
        return many;
    }

    int image(int i) {
        if (i < 0 || i > 1) return -2;
        imageTold[i] = told;
        imageState[i] = now.copy();
        return 0;
    }

    int restore(int i) {
        if (i < 0 || i > 1) return -2;
        if (imageTold[i] == null) return -5;
        told = imageTold[i];
        now = imageState[i].copy();
        past.clear();
        return 0;
    }

    int count(int what) {
        switch (what) {
            case 0: return told.spots;
            case 1: return told.people();
            case 2: return standing(now);
            case 3: return over(now);
            case 4: return now.strengths.stream().mapToInt(Integer::intValue).sum();
            case 5: return told.tide;
            case 6: return past.size();
            case 7: return tape.length();
            case 8: return told.lines;
            default: return NONE;
        }
    }
}
