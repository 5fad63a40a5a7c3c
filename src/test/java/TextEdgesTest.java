/** THE TAPE and the text: promises 1 to 4 and what "Terms" says of texts, sentence by sentence at its edges. */
public final class TextEdgesTest {
    private static final Edges E = new Edges();

    private static final String[] TOKENS = {"river", "depth", "tide", "person", "reach", "strength", "family", "at",
        "holds", "trusts", "or", "and", "not", "who", "spot", "beside", "water", "theirs", "stone", "gap", "word", "1",
        ";", ":", "+", "-", "*", "(", ")", "[", "]", "=", "<", ">"};
    private static final String FLAGS = "strength family at ;";
    private static final String IN_HOLDS = "1 ( who strength spot depth beside water";
    private static final String IN_TRUSTS = "1 ( who strength family theirs stone gap";
    private static final String FOUR = "river 6;person reach 1;person reach 2 at 1;person reach 3 at 7;person reach 4 at 6;";

    private static String times(int n, String text) {
        return text.repeat(n);
    }

    /** Whether a law holds for the one PERSON on the one SPOT. */
    private static void law(String truth, int holds) {
        FordLine x = Edges.ford("river 1;person reach 1 at 1;holds : " + truth + ";");
        E.due(truth, x.holds(0, 5), holds);
    }

    private static void promise1() {
        E.says("Promise 1", "1 SPOT, no PEOPLE.");
        FordLine x = new FordLine();
        E.due("SPOTS", x.count(0), 1);
        E.due("PEOPLE", x.count(1), 0);
        E.due("the one SPOT", x.spot(1, 1), -1);
        E.due("no second SPOT", x.spot(2, 1), -2);
        E.due("no first PERSON", x.person(0, 0), -2);
        E.due("in one way", x.stands(), 1);
        E.due("who STANDS", x.count(2), 0);
        E.due("who is over", x.count(3), 0);
        E.due("to be UNDONE", x.count(6), 0);
        E.due("bytes", x.count(7), 0);
        E.due("LINES", x.count(8), 0);
    }

    private static void promise2() {
        E.says("Promise 2", "Twenty bytes come behind those on THE TAPE, the highest of each int first: how many it has.");
        FordLine x = new FordLine();
        E.due("rive r 3; tide  7;  dept", x.feed(0x72697665, 0x7220333b, 0x74696465, 0x20373b20, 0x64657074), 20);
        E.due("h 1  2 3; and blanks", x.feed(0x68203120, 0x3220333b, 0x0a0a2020, 0x20202020, 0x2020200a), 40);
        E.due("all of it in its order", x.river(40), 3);
        E.due("tide", x.count(5), 7);
        for (int s = 1; s <= 3; s++) E.due("depth", x.spot(s, 0), s);
        FordLine last = new FordLine();
        last.feed(0x72697665, 0x7220333b, 0x20202020, 0x20202020, 0x202020ff);
        E.due("the lowest byte of the last int", last.river(20), -31);
        E.due("the lowest byte of the last int", last.fault(1), 19);
        FordLine first = new FordLine();
        first.feed(-1, 0, 0, 0, 0);
        E.due("the highest byte of the first int", first.river(1), -31);
        FordLine counted = new FordLine();
        for (int i = 1; i <= 45; i++) E.due("how many", counted.feed(i, i, i, i, i), 20 * i);
        E.due("how many", counted.count(7), 900);

        E.says("Promise 2", "-5: it would have more than 900.");
        E.due("900 are taken", Edges.tape(880).feed(0, 0, 0, 0, 0), 900);
        E.in(() -> Edges.tape(900));
        E.refused(-5, "feed", y -> y.feed(0x74696465, 0x20393b20, 0, 0, 0));
        E.refused(-5, "feed", y -> y.feed(0, 0, 0, 0, 0));
        FordLine again = Edges.tape(900);
        E.due("read", again.river(900), 2);
        E.due("taken again", again.feed(0, 0, 0, 0, 0), 20);
        FordLine twice = Edges.tape(900);
        twice.feed(1, 1, 1, 1, 1);
        E.due("refused", twice.feed(1, 1, 1, 1, 1), -5);
        E.due("nothing of it came", twice.count(7), 900);
    }

    private static void promise3() {
        E.says("Promise 3", "The first n bytes of THE TAPE (which is empty then) are THE RIVER");
        String text = "river 5;tide 7;tide 12;tide 3;";
        FordLine x = new FordLine();
        for (int n : new int[] {8, 15}) {
            Edges.feed(x, text);
            E.due("river(" + n + ")", x.river(n), n == 8 ? 1 : 2);
            E.due("tide of " + n, x.count(5), n == 8 ? 5 : 7);
            E.due("the tape is empty", x.count(7), 0);
            E.due("no byte is left", x.river(1), -3);
        }
        Edges.feed(x, text);
        E.due("all that there is", x.river(40), -33);
        E.due("the tape is empty with a FAULT, too", x.count(7), 0);
        Edges.feed(x, text);
        E.due("the end within an N", x.river(21), -32);
        E.due("there is its end", x.fault(1), 21);
        Edges.feed(x, "river 2;tides 1;");
        E.due("the end within a word", x.river(12), -32);
        E.due("there is its end", x.fault(1), 12);
        Edges.feed(x, text);
        E.due("no byte", x.river(0), -32);
        E.due("the tape is empty", x.count(7), 0);
        E.due("nothing was left", x.feed(0, 0, 0, 0, 0), 20);

        E.says("Promise 3", "nothing can be UNDONE");
        FordLine y = Edges.full();
        E.due("ahead", y.count(6), 10);
        E.due("river", y.river(35), 3);
        E.due("behind", y.count(6), 0);
        E.due("undo", y.undo(1), -3);
        E.due("place told", y.person(0, 0), 2);
        E.due("go", y.go(0, 3), 2);
        E.due("what is done behind", y.undo(1), 0);
        E.due("as told", y.person(0, 0), 2);

        E.says("Promise 3", "how many LINES (river, too;");
        E.fine(1, "river 1;");
        E.fine(2, "river 1;tide 0;");
        E.fine(3, "river 1;tide 0;tide 0;");
        E.fine(149, "river1;" + times(148, "tide0;") + "     ");
        E.fine(5, FOUR);
        E.fine(5, "river 1;holds:1=1;holds:1=1;trusts:1=1;trusts:1=1;");

        E.says("Promise 3", "all stays with a FAULT)");
        E.faulty(1, "river 2;tide 1;~?");
        E.faulty(2, "~");
        E.faulty(2, "river 2;tide 1~");
        E.faulty(3, "river 2;person reach 1 at 1;tide 9;depth 1 2;tide ~10;");
        E.faulty(4, FOUR + "~person");

        E.says("Promise 3", "-3: n is below 0 or above what there is (THE TAPE stays)");
        E.refusedEach(-3, "river", FordLine::river, -1, 41, Edges.LEAST, Edges.GREATEST);
        E.in(FordLine::new);
        E.refusedEach(-3, "river", FordLine::river, -1, 1);
        E.due("0 is taken", new FordLine().river(0), -32);
        E.due("all that there is", Edges.full().river(40), 3);
        E.in(() -> Edges.tape(900));
        E.refusedEach(-3, "river", FordLine::river, 901);
        E.due("900", Edges.tape(900).river(900), 2);

        E.says("Promise 3", "-30 less the FAULT.");
        E.faulty(1, "river ~?");
        E.faulty(2, "river ~x");
        E.faulty(3, "river ~0");
        E.faulty(4, FOUR + "~person reach 9;");
        E.faulty(4, "river 1;holds:not[(1)=1 or[[[not ~(1)=1");
    }

    private static void promise4() {
        E.says("Promise 4", "Of the latest river() that was read, what 0: its FAULT (0), 1: its place (NONE).");
        FordLine x = new FordLine();
        E.due("none was read", x.fault(0), 0);
        E.due("none was read", x.fault(1), -1);
        Edges.tell(x, "river 2;tide 10;");
        E.due("FAULT", x.fault(0), 3);
        E.due("place", x.fault(1), 13);
        x.river(1);
        E.due("refused, so not read", x.fault(0), 3);
        E.due("refused, so not read", x.fault(1), 13);
        x.image(0);
        Edges.tell(x, "?");
        E.due("the latest", x.fault(0), 1);
        E.due("place 0", x.fault(1), 0);
        x.restore(0);
        E.due("an IMAGE has no FAULT", x.fault(0), 1);
        Edges.tell(x, "river 2;");
        E.due("no FAULT", x.fault(0), 0);
        E.due("no place", x.fault(1), -1);
        x.river(-1);
        E.due("refused, so not read", x.fault(0), 0);
        Edges.tell(x, "");
        E.due("FAULT", x.fault(0), 2);
        E.due("place 0", x.fault(1), 0);

        E.says("Promise 4", "NONE for others.");
        for (int what : new int[] {-1, 2, Edges.LEAST, Edges.GREATEST}) {
            E.unchanged(-1, "fault(" + what + ")", y -> y.fault(what));
        }
        E.unchanged(3, "fault(0)", y -> y.fault(0));
        E.unchanged(13, "fault(1)", y -> y.fault(1));
    }

    private static void lines() {
        E.says("Terms 1", "THE RIVER is a TEXT of at most 900 bytes");
        FordLine x = new FordLine();
        E.due("900 bytes", Edges.tell(x, "river 2;" + times(883, " ") + "tide 8 ; "), 2);
        E.due("the last LINE", x.count(5), 8);
        E.due("the last byte", Edges.tell(x, "river 2;" + times(885, "\n") + "tide 7;"), 2);
        E.due("the last LINE", x.count(5), 7);
        E.due("a FAULT at the last byte", Edges.tell(x, "river 2;" + times(885, " ") + "tide 7."), -31);
        E.due("there", x.fault(1), 899);
        E.due("a FAULT at the end", Edges.tell(x, "river 2;" + times(886, " ") + "tide 7"), -32);
        E.due("there", x.fault(1), 900);
        E.due("a word to the end", Edges.tell(x, "river 2;" + times(888, " ") + "tide"), -32);
        E.due("there", x.fault(1), 900);
        E.due("900 TOKENS", Edges.tell(x, times(900, ";")), -32);
        E.due("the first of them", x.fault(1), 0);
        StringBuilder law = new StringBuilder("river1;person reach1 at1;holds:0");
        while (law.length() < 894) law.append("+1");
        law.append("=431;");
        E.due("899 bytes, most of them one law", Edges.tell(x, law.toString()), 3);
        E.due("length", law.length(), 899);
        E.due("it is asked to its end", x.holds(0, 0), 1);

        E.says("Terms 1", "(without one: 1 SPOT, DEPTH 0, no PEOPLE, TIDE 5)");
        FordLine none = new FordLine();
        for (int i = 0; i < 2; i++) {
            E.due("SPOTS", none.count(0), 1);
            E.due("DEPTH", none.spot(1, 0), 0);
            E.due("PEOPLE", none.count(1), 0);
            E.due("TIDE", none.count(5), 5);
            E.due("LINES", none.count(8), 0);
            Edges.tell(none, "river 3;tide 2;person reach 1;depth 1;");
        }

        E.says("Terms 1", "river N ; { LINE ; }");
        E.fine(1, "river 1;");
        E.fault(2, "river 1~");
        E.fault(2, "river 1;~;");
        E.fault(2, "river 1;tide 1~");
        stands("", "river");
        stands("river ", "1");
        stands("river 2 ", ";");
        stands("river 2 ; ", "depth tide person holds trusts");
        stands("river 2 ; tide 1 ; ", "depth tide person holds trusts");

        E.says("Terms 1", "LINE: depth N { N } | tide N | person reach N { FLAG } | holds : TRUTH | trusts : TRUTH.");
        stands("river 2 ; depth ", "1");
        stands("river 2 ; depth 1 ", "1");
        stands("river 2 ; depth 1 2 ", ";");
        stands("river 1 ; depth 1 ", ";");
        stands("river 2 ; tide ", "1");
        stands("river 2 ; tide 1 ", ";");
        stands("river 2 ; person ", "reach");
        stands("river 2 ; person reach ", "1");
        stands("river 2 ; holds ", ":");
        stands("river 2 ; trusts ", ":");

        E.says("Terms 1", "FLAG: strength N | family N | at N.");
        stands("river 2 ; person reach 1 ", FLAGS);
        for (String flag : new String[] {"strength", "family", "at"}) {
            stands("river 2 ; person reach 1 " + flag + " ", "1");
            stands("river 2 ; person reach 1 " + flag + " 2 ", FLAGS);
            stands("river 2 ; person reach 1 at 1 at 2 " + flag + " 2 ", FLAGS);
        }
        E.fine(2, "river 1;person reach 1" + times(80, " at 1") + times(40, " family 9") + ";");
    }

    /** Which TOKENS can stand behind a beginning; the end can't, but behind a ; */
    private static void stands(String begin, String can) {
        String some = " " + can + " ";
        for (String token : TOKENS) {
            String text = begin + token;
            FordLine x = new FordLine();
            int answer = Edges.tell(x, text);
            boolean right = some.contains(" " + token + " ");
            boolean ended = right && token.equals(";");
            E.due("river of " + text, answer < 0 ? -32 : 0, ended ? 0 : -32);
            E.due("place in " + text, x.fault(1), ended ? -1 : right ? text.length() : begin.length());
        }
        if (!begin.endsWith("; ")) E.fault(2, begin.length(), begin);
    }

    private static void laws() {
        E.says("Terms 1", "TRUTH: BOTH { or BOTH }; BOTH: UNIT { and UNIT }; UNIT: not UNIT, [ TRUTH ], or SUM, one of "
                + "= < >, SUM.");
        for (String head : new String[] {"river 2 ; holds : ", "river 2 ; trusts : "}) {
            String atoms = head.contains("holds") ? IN_HOLDS : IN_TRUSTS;
            String units = "not [ " + atoms;
            for (String ahead : new String[] {"", "not ", "[ ", "1 = 1 or ", "1 = 1 and ", "not [ not "}) {
                stands(head + ahead, units);
                stands(head + ahead + "1 ", "+ - * = < >");
                for (String sign : new String[] {"=", "<", ">"}) stands(head + ahead + "1 " + sign + " ", atoms);
                stands(head + ahead + "1 = 1 ", ahead.contains("[") ? "+ - * or and ]" : "+ - * or and ;");
            }
            stands(head + "[ 1 = 1 ] ", "or and ;");
            stands(head + "[ [ 1 = 1 ] ", "or and ]");
            stands(head + "not [ 1 = 1 ] ", "or and ;");
        }
        law("1 = 1 or 1 = 1 and 1 = 2", 1);
        law("[1 = 1 or 1 = 1] and 1 = 2", 0);
        law("1 = 2 and 1 = 1 or 1 = 1", 1);
        law("not 1 = 2 and 1 = 2", 0);
        law("not [1 = 2 and 1 = 2]", 1);
        law("not 1 = 1 or 1 = 1", 1);
        law("not not 1 = 1", 1);
        law("1 < 2 and 2 > 1", 1);
        law("2 < 2 or 2 > 2", 0);
        law("1 = 2 or 1 = 2 or 1 = 1", 1);
        law("1 = 1 and 1 = 1 and 1 = 2", 0);

        E.says("Terms 1", "SUM: TERM { + TERM | - TERM }; TERM: ATOM { * ATOM }; ATOM: N, ( SUM ), who, strength, in "
                + "holds spot, depth, beside, water, in trusts family, theirs, stone, gap.");
        for (String head : new String[] {"river 2 ; holds : ", "river 2 ; trusts : "}) {
            String atoms = head.contains("holds") ? IN_HOLDS : IN_TRUSTS;
            for (String ahead : new String[] {"1 + ", "1 - ", "1 * ", "( ", "( ( ", "( 1 + "}) stands(head + ahead, atoms);
            for (String ahead : new String[] {"1 = 1 + ", "1 < 1 * ", "1 > ( "}) stands(head + ahead, atoms);
            for (String atom : atoms.split(" ")) {
                if (atom.equals("(")) continue;
                stands(head + atom + " ", "+ - * = < >");
                stands(head + "( " + atom + " ", "+ - * )");
            }
            stands(head + "( 1 ) ", "+ - * = < >");
            stands(head + "1 = ( 1 ) ", "+ - * or and ;");
            stands(head + "1 = ( ( 1 ) ", "+ - * )");
        }
        law("2 + 3 * 4 = 14", 1);
        law("(2 + 3) * 4 = 20", 1);
        law("9 - 4 - 3 = 2", 1);
        law("9 - (4 - 3) = 8", 1);
        law("9 - 4 + 3 = 8", 1);
        law("2 * 3 * 4 = 24", 1);
        law("0 - 1 < 0", 1);

        E.says("Terms 1", "At most six of not [ ( within one another.");
        E.fine(2, "river 1;holds:" + times(6, "not ") + "1=1;");
        E.fine(2, "river 1;holds:" + times(6, "[") + "1=1" + times(6, "]") + ";");
        E.fine(2, "river 1;holds:" + times(6, "(") + "1" + times(6, ")") + "=" + times(6, "(") + "1" + times(6, ")") + ";");
        E.fine(2, "river 1;trusts:not[not[((1))=1]];");
        E.fine(2, "river 1;trusts:" + times(3, "not[") + "1=1" + times(3, "]") + ";");
        String six = times(6, "[") + "1=1" + times(6, "]");
        E.fine(2, "river 1;trusts:" + six + " and not " + six.substring(1, 14) + " or " + six + ";");
        E.fine(2, "river 1;trusts:[[[[[not 1=1 and not 1=1 or (1)*(1)=(1)+(1)-(1)]]]]];");
        law(times(6, "not ") + "1 = 1", 1);
        law(times(5, "not ") + "1 = 1", 0);
        law(times(6, "[") + "1 = 2" + times(6, "]"), 0);
        law("1 + (1 + (1 + (1 + (1 + (1 + (1)))))) = 7", 1);
        law("[1=1 and [1=1 and [1=1 and [1=1 and [1=1 and [1=1 and 1+2*3=7]]]]]]", 1);
        law("1=2 or [1=1 and [1=2 or [1=1 and [1=2 or [1=1 and 9-2*(3+1)=1]]]]]", 1);
        E.fault(4, "river 1;holds:" + times(6, "not ") + "~not 1=1;");
    }

    private static void numbers() {
        E.says("Terms 1", "river: how many SPOTS, 1 to 6.");
        for (int n = 1; n <= 6; n++) E.due("SPOTS", E.fine(1, "river " + n + ";").count(0), n);
        for (int n : new int[] {0, 7, 10, 999}) E.fault(3, 6, "river " + n + ";");

        E.says("Terms 1", "depth: of all SPOTS, 0 to 9, one by one (all 0; a later one strikes).");
        FordLine x = E.fine(2, "river 6;depth 0 9 1 8 2 7;");
        int[] depths = {0, 9, 1, 8, 2, 7};
        for (int s = 1; s <= 6; s++) E.due("DEPTH", x.spot(s, 0), depths[s - 1]);
        for (int s = 1; s <= 6; s++) E.due("DEPTH", E.fine(1, "river 6;").spot(s, 0), 0);
        FordLine y = E.fine(3, "river 3;depth 1 2 3;depth 4 0 6;");
        E.due("later", y.spot(1, 0), 4);
        E.due("later", y.spot(2, 0), 0);
        E.due("later", y.spot(3, 0), 6);
        E.fault(3, "river 2;depth ~10 9;");
        E.fault(3, "river 2;depth 9 ~10;");
        E.fine(2, "river 2;depth 009 000;");

        E.says("Terms 1", "tide: the WATER of a flood by turns, 0 to 9 (5; a later one strikes).");
        E.due("none", E.fine(1, "river 1;").count(5), 5);
        E.due("0", E.fine(2, "river 1;tide 0;").count(5), 0);
        E.due("9", E.fine(2, "river 1;tide 9;").count(5), 9);
        E.due("later", E.fine(3, "river 1;tide 9;tide 2;").count(5), 2);
        E.fault(3, "river 1;tide ~10;");
        E.due("it isn't kept from the river ahead", Edges.tell(x, "river 1;tide 3;"), 2);
        E.due("5 again", Edges.tell(x, "river 1;"), 1);
        E.due("5 again", x.count(5), 5);

        E.says("Terms 1", "person: its REACH, 1 to 4;");
        for (int n = 1; n <= 4; n++) E.due("REACH", E.fine(2, "river 1;person reach " + n + ";").person(0, 1), n);
        E.fault(3, "river 1;person reach ~0;");
        E.fault(3, "river 1;person reach ~5;");

        E.says("Terms 1", "strength 0 to 9 (5), family 0 to 9 (0), at: its PLACE (0); later ones strike;");
        FordLine bare = E.fine(2, "river 3;person reach 1;");
        E.due("STRENGTH", bare.person(0, 2), 5);
        E.due("family", bare.person(0, 3), 0);
        E.due("PLACE", bare.person(0, 0), 0);
        FordLine low = E.fine(2, "river 3;person reach 1 strength 0 family 0 at 0;");
        E.due("STRENGTH", low.person(0, 2), 0);
        E.due("family", low.person(0, 3), 0);
        E.due("PLACE", low.person(0, 0), 0);
        FordLine high = E.fine(2, "river 3;person reach 1 at 4 family 9 strength 9;");
        E.due("STRENGTH", high.person(0, 2), 9);
        E.due("family", high.person(0, 3), 9);
        E.due("the far bank", high.person(0, 0), 4);
        FordLine late = E.fine(2, "river 3;person reach 1 at 4 strength 9 family 9 strength 0 at 2 family 0 at 1;");
        E.due("STRENGTH", late.person(0, 2), 0);
        E.due("family", late.person(0, 3), 0);
        E.due("PLACE", late.person(0, 0), 1);
        E.fault(3, "river 3;person reach 1 strength ~10;");
        E.fault(3, "river 3;person reach 1 family ~10;");
        E.fault(3, "river 3;person reach 1 at ~5;");
        E.due("far bank of six", E.fine(2, "river 6;person reach 1 at 7;").person(0, 0), 7);
        E.fault(3, "river 6;person reach 1 at ~8;");

        E.says("Terms 1", "numbered from 0 on, 4 at most.");
        FordLine four = E.fine(5, FOUR);
        E.due("PEOPLE", four.count(1), 4);
        for (int p = 0; p < 4; p++) E.due("REACH by number", four.person(p, 1), p + 1);
        E.due("no 5th", four.person(4, 1), -2);
        E.fault(4, FOUR + "~person reach 1;");

        E.says("Terms 1", "Later ones of holds, trusts strike.");
        FordLine laws = E.fine(8, "river 1;person reach 1 at 1;person reach 1;holds:1=1;trusts:1=2;holds:water=3;"
                + "trusts:gap=1;trusts:gap=3;");
        E.due("holds", laws.holds(0, 3), 1);
        E.due("holds", laws.holds(0, 2), 0);
        E.due("trusts", laws.trusts(0, 1, 3), 1);
        E.due("trusts", laws.trusts(0, 1, 1), 0);
        FordLine none = E.fine(3, "river 1;person reach 1 at 1;person reach 1;");
        Edges.tell(laws, "river 1;person reach 1 at 1;person reach 1;");
        for (int n = 1; n <= 4; n++) E.due("none is kept from the river ahead", laws.trusts(0, 1, n), 1);
        for (int n = 0; n <= 9; n++) E.due("none is kept from the river ahead", laws.holds(0, n), none.holds(0, n));
    }

    private static void tokens() {
        E.says("Terms 1", "TOKENS, as long as they go on, between them blanks (10, 32):");
        E.fine(3, "river2;tide1;person reach1at1strength2family3;");
        E.fine(2, "river 2;holds:1=1or not 2=2and[3<who];");
        E.fine(2, " \n river\n\n2\n ; tide \n 3 ; \n");
        E.fine(2, "river 2;tide 3;" + times(700, " "));
        E.fault(2, "river 2;~tidetide 3;");
        E.fault(2, "river 2;~tides 3;");
        E.fault(2, "river 2;~tid e 3;");
        E.fault(2, "river 2;holds:~notwho=1;");
        E.fault(2, "river 2;holds:1 ~whoor=1;");
        E.fault(3, "river 2;depth ~12;");
        E.fault(2, "river 2;holds:who~1=1;");
        E.fault(2, "river 2;holds:1~who=1;");
        for (int b = 0; b < 256; b++) {
            boolean blank = b == 10 || b == 32;
            FordLine x = new FordLine();
            E.due("byte " + b + " as a blank", Edges.tell(x, "river 2;" + (char) b + "tide 3;") > 0 ? 1 : 0, blank ? 1 : 0);
        }

        E.says("Terms 1", "words (small letters),");
        for (int b = 0; b < 256; b++) {
            FordLine x = new FordLine();
            Edges.tell(x, "river 2;ti" + (char) b + "de 3;");
            E.due("byte " + b + " within a word", x.fault(1), 8);
            E.due("byte " + b + " within a word", x.fault(0), 2);
            boolean small = b >= 'a' && b <= 'z';
            Edges.tell(x, "river 2;tide" + (char) b + "3;");
            E.due("byte " + b + " ends a word", x.fault(1) == 8 ? 1 : 0, small ? 1 : 0);
        }

        E.says("Terms 1", "N (1 to 3 digits),");
        law("0 = 000 and 1 = 01 and 1 = 001 and 12 = 012", 1);
        law("999 > 998 and 100 > 99 and 123 = 100 + 23", 1);
        E.fine(2, "river 006;tide 009;");
        E.fault(1, "river ~0006;");
        E.fault(1, "river 6;holds:~1000=1;");
        E.fault(3, "river ~999;");
        for (int digit = 0; digit <= 9; digit++) {
            E.due("digit " + digit, E.fine(2, "river 1;tide " + digit + ";").count(5), digit);
        }

        E.says("Terms 1", "the signs ; : + - * ( ) [ ] = < >.");
        String signs = ";:+-*()[]=<>";
        for (int b = 0; b < 256; b++) {
            if (b == 10 || b == 32) continue;
            boolean known = signs.indexOf(b) >= 0 || b >= '0' && b <= '9' || b >= 'a' && b <= 'z';
            E.fault(known ? 2 : 1, 8, "river 2;" + (char) b);
        }
        E.fine(3, "river 2;holds:not[(1+1)*2-1=3]and 1<2 or 2>1;trusts : [ ( gap ) = 1 ];");
    }

    private static void faults() {
        E.says("Terms 1", "FAULTS, the first along the text, of one TOKEN the least kind:");
        String[] wrong = {"~?", "depth 1~;", "tide ~10;", "holds:" + times(6, "not ") + "~not ", "~person reach 9;"};
        int[] kinds = {1, 2, 3, 4, 4};
        for (int a = 0; a < wrong.length; a++) {
            for (String later : wrong) E.fault(kinds[a], FOUR + wrong[a] + ";" + later.replace("~", ""));
        }
        E.fault(1, "river 2;tide ~1000;");
        E.fault(1, "river 2;tide 1 ~?");
        E.fault(1, "river 2;depth 1 2 ~1000;");
        E.fault(2, "river 2;depth 1 2 ~10;");
        E.fault(2, "river 2;~10;");
        E.fault(2, FOUR + "tide 1~person reach 1;");
        E.fault(2, "river 2;holds:[[[[[[1=~not 1=1");
        E.fault(2, "river 2;holds:[[[[[[1=~[1=1]");
        E.fault(2, "river 2;holds:((((((~[1=1]");
        E.fault(2, "river 2;holds:((((((~not 1=1");
        E.fault(2, "river 2;holds:((((((1~(1");
        E.fault(2, "river 2;holds:((((((1~not");

        E.says("Terms 1", "1 no TOKEN begins so (4 digits and more: at their first).");
        E.fault(1, "~?");
        E.fault(1, "~River 1;");
        E.fault(1, "river 1~,");
        E.fault(1, "river 1;tide ~1234;");
        E.fault(1, "river 1;tide ~0000;");
        E.fault(1, "river 1;tide ~00000000001;");
        E.fault(1, "river 1;tide ~1234?;");
        E.fault(1, "river 1;tide ~99999999999999999999;");
        E.fault(1, 13, "river 1;tide " + times(887, "1"));
        E.fault(1, "river 1;holds:~1000=1;");
        E.fault(1, "river 1;tide 1~\t;");

        E.says("Terms 1", "2 it can't stand there");
        E.fault(2, "~word");
        E.fault(2, "~;");
        E.fault(2, "~1");
        E.fault(2, "river 1~word;");
        E.fault(2, "river 1;tide 1 ~2;");

        E.says("Terms 1", "(the end: the text's length;");
        E.fault(2, "~");
        E.fault(2, "river~");
        E.fault(2, "river    ~");
        E.fault(2, "river 1\n\n~");
        E.fault(2, 900, "river 1" + times(893, " "));
        E.fault(2, "river 1;holds:1=1~");
        E.fault(2, "river 1;holds:[1=1~");
        E.fault(2, "river 1;person reach 1 family~");

        E.says("Terms 1", "river must be told first, and once;");
        E.fault(2, "~tide 1;river 1;");
        E.fault(2, "~person reach 1;river 1;");
        E.fault(2, "~;river 1;");
        E.fault(2, "river 1;~river 1;");
        E.fault(2, "river 1;tide 1;~river 2;");

        E.says("Terms 1", "too many, too few DEPTHS: what stands in place of one;");
        for (int spots = 1; spots <= 6; spots++) {
            String depths = "river " + spots + ";depth" + times(spots - 1, " 1");
            for (String few : new String[] {"~;", " ~tide 1;", "~"}) E.fault(2, depths + few);
            E.fine(2, depths + " 1;");
            for (String many : new String[] {" 1 ~1;", " 1 ~99;"}) E.fault(2, depths + many);
        }

        E.says("Terms 1", "a word of the other law).");
        for (String word : new String[] {"spot", "depth", "beside", "water"}) {
            E.fault(2, "river 1;trusts:~" + word + "=1;");
            E.fault(2, "river 1;trusts:1=~" + word + ";");
            E.fine(2, "river 1;holds:" + word + "=1;");
        }
        for (String word : new String[] {"family", "theirs", "stone", "gap"}) {
            E.fault(2, "river 1;holds:~" + word + "=1;");
            E.fault(2, "river 1;holds:1+(~" + word + ")=1;");
            E.fine(2, "river 1;trusts:" + word + "=1;");
        }
        E.fault(2, "river 1;trusts:gap=1;holds:~gap=1;");
        E.fault(2, "river 1;holds:spot=1;trusts:1=~spot;");
    }

    private static void boundFaults() {
        E.says("Terms 1", "3 an N out of its bounds (a SPOT where somebody told ahead is).");
        E.fault(3, "river 2;person reach 1 at 1;person reach 1 at ~1;");
        E.fault(3, "river 2;person reach 1 at 1;person reach 1 at ~1 at 2;");
        E.fault(3, "river 2;person reach 1 at 2;person reach 1 at 1 at ~2;");
        E.fault(3, "river 3;person reach 1 at 3;person reach 1 at 2;person reach 1 at ~3;");
        E.fault(3, "river 3;person reach 1 at 3;person reach 1 at 2;person reach 1 at ~2;");
        E.fault(3, "river 3;person reach 1 at 3;person reach 1 at 2;person reach 1 at ~002;");
        E.fine(3, "river 2;person reach 1 at 1 at 2;person reach 1 at 1;");
        E.fine(3, "river 2;person reach 1 at 1 at 0;person reach 1 at 1;");
        E.fine(2, "river 2;person reach 1 at 1 at 1;");
        E.fine(3, "river 2;person reach 1 at 3;person reach 1 at 3;");
        E.fine(3, "river 2;person reach 1 at 0;person reach 1 at 0;");
        E.fine(5, "river 1;person reach 1;person reach 1 at 2;person reach 1 at 1;person reach 1 at 2;");
        E.fault(3, "river 2;tide ~999;");

        E.says("Terms 1", "4 the first TOKEN of a 5th person;");
        E.fault(4, FOUR + "~person");
        E.fault(4, FOUR + "\n~person?");
        E.fault(4, FOUR + "tide 1;~person reach 1 at 1;");
        E.fine(6, FOUR + "tide 1;");

        E.says("Terms 1", "a seventh of not [ (.");
        for (String law : new String[] {"river 2;holds :", "river 2;trusts:"}) {
            for (String deep : new String[] {times(6, "not "), times(6, "["), "not[not[not[", "[[[not not not "}) {
                for (String more : new String[] {"~not", "~[", "~(", "1=~(", "1=1+~("}) E.fault(4, law + deep + more);
            }
            for (String deep : new String[] {times(6, "("), "not[not[((", "[[[[[("}) {
                for (String more : new String[] {"~(", "1*~(", "1-~("}) E.fault(4, law + deep + more);
            }
            E.fault(4, law + "[[[[[[1=1]and[1=1]]or[[~[1=1");
        }
    }

    public static void main(String[] args) {
        promise1();
        promise2();
        promise3();
        promise4();
        lines();
        laws();
        numbers();
        tokens();
        faults();
        boundFaults();
        E.end(Edges.promises(1, 4, "Terms 1"));
    }
}
