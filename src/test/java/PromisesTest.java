/** For each promise of the document: ordinary inputs, the edges that it names, wrong inputs. */
public final class PromisesTest {
    private static int wrong = 0;
    private static int asked = 0;

    private static final String THREE = "river 3;person reach 2 strength 3;"
            + "person reach 1 strength 7 family 2 at 2;person reach 4 at 4;";
    private static final String LINE_OF_THREE = "river 3;depth 2 2 2;person reach 1 strength 1 at 1;"
            + "person reach 1 strength 1 at 2;person reach 1 strength 1 at 3;holds : strength + beside * 2 + 1 > water;";

    private static void due(String what, long got, long want) {
        asked++;
        if (got != want) {
            wrong++;
            System.out.println(what + " answered " + got + ", due is " + want);
        }
    }

    private static void feed(FordLine x, String text) {
        for (int from = 0; from < text.length(); from += 20) {
            int[] ints = new int[5];
            for (int i = 0; i < 20; i++) {
                char c = from + i < text.length() ? text.charAt(from + i) : ' ';
                ints[i / 4] = ints[i / 4] << 8 | c & 255;
            }
            x.feed(ints[0], ints[1], ints[2], ints[3], ints[4]);
        }
    }

    private static int tell(FordLine x, String text) {
        feed(x, text);
        return x.river(text.length());
    }

    private static FordLine ford(String text) {
        FordLine x = new FordLine();
        int lines = tell(x, text);
        if (lines < 1) due("river of " + text, lines, 1);
        return x;
    }

    private static void fault(String text, int kind, int place) {
        FordLine x = ford(THREE);
        x.go(0, 1);
        due("river: " + text, tell(x, text), -30 - kind);
        due("fault(0): " + text, x.fault(0), kind);
        due("fault(1): " + text, x.fault(1), place);
        due("all stays: " + text, x.count(0) * 1000 + x.count(1) * 100 + x.person(0, 0) * 10 + x.count(6), 3311);
        due("lines stay: " + text, x.count(8), 4);
        due("the tape is empty: " + text, x.count(7), 0);
    }

    private static void told(String text, int lines) {
        FordLine x = new FordLine();
        due("river: " + text, tell(x, text), lines);
        due("fault(0): " + text, x.fault(0), 0);
        due("fault(1): " + text, x.fault(1), -1);
    }

    private static void tray(FordLine x, int tray, int... numbers) {
        x.numbers(tray, 1, numbers.length);
        for (int i = 0; i < numbers.length; i++) x.write(tray, i, numbers[i]);
    }

    private static void newObject() {
        FordLine x = new FordLine();
        int[] counts = {1, 0, 0, 0, 0, 5, 0, 0, 0};
        for (int what = 0; what < counts.length; what++) due("1: count(" + what + ")", x.count(what), counts[what]);
        due("1: spot(1,0)", x.spot(1, 0), 0);
        due("1: spot(1,1)", x.spot(1, 1), -1);
        due("1: fault(0)", x.fault(0), 0);
        due("1: fault(1)", x.fault(1), -1);
        due("1: judge(3,0)", x.judge(3, 0), -6);
        due("1: restore(1)", x.restore(1), -5);
        due("1: undo(1)", x.undo(1), -3);
        due("1: NONE", FordLine.NONE, -1);
    }

    private static void tape() {
        FordLine x = new FordLine();
        for (int i = 1; i <= 45; i++) due("2: feed", x.feed(0x20202020, 0x20202020, 0x0a0a0a0a, 0, 0), 20L * i);
        due("2: feed beyond 900", x.feed(1, 1, 1, 1, 1), -5);
        due("2: the tape stays", x.count(7), 900);
        due("3: river(901)", x.river(901), -3);
        due("3: river(-1)", x.river(-1), -3);
        due("3: the tape stays", x.count(7), 900);
        due("3: blanks alone", x.river(12), -32);
        due("4: the end of it", x.fault(1), 12);
        due("3: the tape is empty", x.count(7), 0);
        due("3: river(1)", x.river(1), -3);
        due("4: not read, so as it was", x.fault(1), 12);
        due("3: river(0)", x.river(0), -32);
        due("4: place 0", x.fault(1), 0);
        due("4: fault(2)", x.fault(2), -1);
        due("4: fault(-1)", x.fault(-1), -1);
        StringBuilder long900 = new StringBuilder("river 2;");
        while (long900.length() < 888) long900.append("tide 3; ");
        long900.append("     tide 7;");
        due("3: 900 bytes", tell(x, long900.toString()), 1 + 110 + 1);
        due("3: to the last one", x.count(5), 7);
        feed(x, "river 5;person reach 1;");
        due("3: the first bytes only", x.river(8), 1);
        due("3: the rest of the tape is gone", x.count(7), 0);
        due("3: no people told", x.count(1), 0);
        feed(x, "tide 3;river 5;");
        x.feed(0, 0, 0, 0, 0);
        due("2: behind those there are", x.count(7), 40);
        due("2: highest first", new FordLine().feed(0x72697665, 0x7220323b, 0, 0, 0), 20);
    }

    private static void rivers() {
        FordLine x = ford("river 2;person reach 1;");
        due("3: go", x.go(0, 1), 0);
        due("3: can be undone", x.count(6), 1);
        due("3: river", tell(x, "river 3;person reach 2 at 3;"), 2);
        due("3: nothing can be undone", x.count(6), 0);
        due("3: undo", x.undo(1), -3);
        due("3: place", x.person(0, 0), 3);
        told("river 1;", 1);
        told("river 6;depth 9 9 9 9 9 9;depth 1 2 3 4 5 6;tide 9;tide 0;", 5);
        told("  river\n6\n;  ", 1);
        told("river001;depth9;", 2);
        told("river 2;person reach 4 at 1 at 2;person reach 1 at 1;", 3);
        told("river 2;person reach 4 at 1 at 1;", 2);
        told("river 2;person reach 4 at 3;person reach 1 at 3;person reach 1;person reach 1 at 0;", 5);
        told("river 2;trusts:not[not[not[1=1]]];", 2);
        told("river 2;trusts:((((((1))))))=((((((1))))));holds:not not not not not not 1=2 and not 1=2;", 3);
        told("river 2;holds: who+strength-spot*depth=beside and water<999 or 000>1;", 2);
        told("river 2;trusts: who+strength-family*theirs=stone and gap<999;trusts:1=1;", 3);
        FordLine y = ford("river 2;depth 1 2;depth 3 4;tide 1;tide 2;"
                + "person reach 2 strength 1 strength 2 family 3 family 4 at 1 at 2;holds:1=1;holds:1=2;trusts:1=1;trusts:1=2;"
                + "person reach 1;");
        due("3: a later depth strikes", y.spot(2, 0), 4);
        due("3: a later tide strikes", y.count(5), 2);
        due("3: a later strength strikes", y.person(0, 2), 2);
        due("3: a later family strikes", y.person(0, 3), 4);
        due("3: a later at strikes", y.person(0, 0), 2);
        due("3: a later holds strikes", y.holds(0, 0), 0);
        due("3: a later trusts strikes", y.trusts(0, 1, 1), 0);
        due("3: strength 5", y.person(1, 2), 5);
        due("3: family 0", y.person(1, 3), 0);
        due("3: place 0", y.person(1, 0), 0);
    }

    private static void faults() {
        fault("", 2, 0);
        fault("?", 1, 0);
        fault("tide 1;", 2, 0);
        fault("river 2", 2, 7);
        fault("river 2   ", 2, 10);
        fault("river 0;", 3, 6);
        fault("river 7;", 3, 6);
        fault("river 1000;", 1, 6);
        fault("river 2;river 2;", 2, 8);
        fault("river 2;;", 2, 8);
        fault("river 2;depth 1;", 2, 15);
        fault("river 2;depth 1 2 3;", 2, 18);
        fault("river 2;depth 1 2 99;", 2, 18);
        fault("river 2;depth 1 2 1234;", 1, 18);
        fault("river 2;depth 1 10;", 3, 16);
        fault("river 2;depth;", 2, 13);
        fault("river 2;tide 10;", 3, 13);
        fault("river 2;tide 10 ?;", 3, 13);
        fault("river 2;tide 1 1;", 2, 15);
        fault("river 2;tide 1\t;", 1, 14);
        fault("river 2;tide 1\r;", 1, 14);
        fault("river 2;Tide 1;", 1, 8);
        fault("river 2;t\u00efde 1;", 2, 8);
        fault("river 2;tides 1;", 2, 8);
        fault("river 2;tid 1;", 2, 8);
        fault("river 2;zoo;", 2, 8);
        fault("river 2;tide{1;", 1, 12);
        fault("river 2;`tide 1;", 1, 8);
        fault("river 2;tide /;", 1, 13);
        fault("river 2;tide,1;", 1, 12);
        fault("river 2;person;", 2, 14);
        fault("river 2;person reach;", 2, 20);
        fault("river 2;person reach 0;", 3, 21);
        fault("river 2;person reach 5;", 3, 21);
        fault("river 2;person reach 1 reach 1;", 2, 23);
        fault("river 2;person reach 1 strength 10;", 3, 32);
        fault("river 2;person reach 1 family 10;", 3, 30);
        fault("river 2;person reach 1 at 4;", 3, 26);
        fault("river 2;person reach 1 at;", 2, 25);
        fault("river 2;person reach 1 at 1;person reach 1 at 1 at 2;", 3, 46);
        fault("river 2;person reach 1;person reach 1;person reach 1;person reach 1;person", 4, 68);
        fault("river 2;holds 1=1;", 2, 14);
        fault("river 2;holds : family = 1;", 2, 16);
        fault("river 2;holds : theirs = 1;", 2, 16);
        fault("river 2;holds : stone = 1;", 2, 16);
        fault("river 2;holds : gap = 1;", 2, 16);
        fault("river 2;trusts : spot = 1;", 2, 17);
        fault("river 2;trusts : depth = 1;", 2, 17);
        fault("river 2;trusts : beside = 1;", 2, 17);
        fault("river 2;trusts : water = 1;", 2, 17);
        fault("river 2;trusts : tide = 1;", 2, 17);
        fault("river 2;holds : 1 = 1 = 1;", 2, 22);
        fault("river 2;holds : [1] = 1;", 2, 18);
        fault("river 2;holds : (1 = 1);", 2, 19);
        fault("river 2;holds : 1 = [1];", 2, 20);
        fault("river 2;holds : 1 = not 1;", 2, 20);
        fault("river 2;holds : -1 = 1;", 2, 16);
        fault("river 2;holds : 1 + = 1;", 2, 20);
        fault("river 2;holds : 1 = 1 or;", 2, 24);
        fault("river 2;holds : 1 = 1 and or 1 = 1;", 2, 26);
        fault("river 2;holds : 1 = 1]", 2, 21);
        fault("river 2;holds : 1 = 1", 2, 21);
        fault("river 2;holds : not not not not not not not", 4, 40);
        fault("river 2;holds : [[[[[[[", 4, 22);
        fault("river 2;holds : (((((((", 4, 22);
        fault("river 2;holds : not[not[not[(", 4, 28);
        fault("river 2;holds : not[not[not[not", 4, 28);
        fault("river 2;holds : not[not[not 1 = [", 2, 32);
        fault("river 2;holds : [[[[[[1 = (1", 4, 26);
    }

    private static void people() {
        FordLine x = ford(THREE);
        due("5: place", x.person(1, 0), 2);
        due("5: reach", x.person(1, 1), 1);
        due("5: strength", x.person(1, 2), 7);
        due("5: family", x.person(1, 3), 2);
        due("5: by a stone, to the far bank", x.person(0, 4), 0b11010);
        due("5: beside it", x.person(1, 4), 0b01010);
        due("5: from the far bank", x.person(2, 4), 0b01011);
        due("5: what", x.person(1, 5), -2);
        due("5: what", x.person(1, -1), -2);
        due("5: person", x.person(3, 0), -2);
        due("5: person", x.person(-1, 0), -2);
        due("6: depth", x.spot(3, 0), 0);
        due("6: who", x.spot(2, 1), 1);
        due("6: nobody", x.spot(3, 1), -1);
        due("6: what", x.spot(3, 2), -2);
        due("6: what", x.spot(3, -1), -2);
        due("6: the near bank", x.spot(0, 1), -2);
        due("6: the far bank", x.spot(4, 1), -2);
        due("9: one step", x.steps(0, 1), 1);
        due("9: two steps", x.steps(0, 3), 2);
        due("9: over", x.steps(0, 4), 2);
        due("9: somebody is there", x.steps(0, 2), -1);
        due("9: it is there", x.steps(0, 0), -1);
        due("9: no steps lead there", x.steps(1, 0), -1);
        due("9: a bank between", ford("river 4;person reach 3 at 2;person reach 3 at 3;trusts:1=2;").steps(0, 4), 1);
        due("9: place", x.steps(0, 5), -2);
        due("9: place", x.steps(0, -1), -2);
        due("9: person", x.steps(3, 1), -2);
        FordLine back = ford("river 5;person reach 2 at 2;person reach 1 at 1;trusts:1=2;");
        due("9: two are apart no more than the reach", back.person(0, 4), 0b0011001);
        FordLine bank = ford("river 4;person reach 2 at 1;person reach 1 at 2;trusts:gap=2;");
        due("9: by the near bank to a stone that gap 1 doesn't let one upon", bank.steps(0, 4), 3);
        due("9: without it", bank.steps(0, 3), 1);
        FordLine far = ford("river 4;person reach 2 at 4;person reach 1 at 3;trusts:gap=2;");
        due("9: by the far bank", far.steps(0, 1), 3);
        due("9: by the far bank", far.person(0, 4), 0b100110);
    }

    private static void laws() {
        FordLine x = ford("river 3;person reach 2 strength 1 family 3;person reach 2 strength 2 family 4 at 1;"
                + "trusts : who = 0 and strength = 1 and family = 3 and theirs = 4 and stone = 2 and gap < 3;");
        due("7: trusts", x.trusts(0, 1, 1), 1);
        due("7: gap", x.trusts(0, 1, 3), 0);
        due("7: the other way", x.trusts(1, 0, 1), 0);
        due("7: both one", x.trusts(1, 1, 1), -2);
        due("7: no such", x.trusts(0, 2, 1), -2);
        due("7: no such", x.trusts(-1, 0, 1), -2);
        due("7: people ahead of how far", x.trusts(0, 2, 0), -2);
        due("7: how far", x.trusts(0, 1, 0), -3);
        due("7: how far", x.trusts(0, 1, 5), -3);
        x.strength(1, 3);
        due("7: by strengths as they are", x.trusts(0, 1, 1), 0);
        x.undo(1);
        due("7: and as they were", x.trusts(0, 1, 1), 1);
        due("7: without a law", ford(THREE).trusts(0, 1, 4), 1);
        FordLine y = ford("river 3;depth 4 5 6;person reach 1 strength 2 at 1;person reach 1 strength 3 at 2;"
                + "person reach 1 at 4;person reach 1;"
                + "holds : who = 1 and strength = 3 and spot = 2 and depth = 5 and beside = 1 and water = 7;");
        due("8: holds", y.holds(1, 7), 1);
        due("8: water", y.holds(1, 6), 0);
        due("8: who", y.holds(0, 7), 0);
        y.depth(2, 4);
        due("8: by depths as they are", y.holds(1, 7), 0);
        y.undo(1);
        due("8: on the far bank", y.holds(2, 7), -5);
        due("8: on the near bank", y.holds(3, 7), -5);
        due("8: water", y.holds(2, 10), -3);
        due("8: water", y.holds(2, -1), -3);
        due("8: person ahead of water", y.holds(4, 10), -2);
        FordLine z = ford(THREE);
        due("8: without a law", z.holds(1, 7), 1);
        due("8: above its strength", z.holds(1, 8), 0);
        law("1 + 2 * 3 = 7", 1);
        law("(1 + 2) * 3 = 9", 1);
        law("9 - 3 - 2 = 4", 1);
        law("1 = 1 or 1 = 2 and 1 = 2", 1);
        law("[1 = 1 or 1 = 2] and 1 = 2", 0);
        law("not 1 = 2 and 1 = 1", 1);
        law("not [1 = 1 or 1 = 2]", 0);
        law("2 < 3 and 3 > 2 and not 3 < 3 and not 3 > 3", 1);
        law("999 * 999 * 999 = 999 * 999 * 2", 1);
        law("999 * 999 * 999 - 999 * 999 = 1000000", 0);
        law("999 * 999 + 999 * 999 - 999 * 999 = 999 + 1000 * 1", 0);
        law("999 * 999 + 999 * 999 - 999 * 999 = 1000 + 999", 0);
        law("999 * 999 + 999 * 999 - 999 * 999 = 999 + 999 + 1", 1);
        law("0 - 999 * 999 - 999 * 999 + 999 * 999 = 0 - 999 - 999 - 1", 1);
        law("(0 - 999) * 999 * 999 = 0 - 999 * 999 * 999", 1);
        law("(0 - 999) * 999 * 999 * 999 * 999 < 0", 1);
    }

    /** 1000 is four digits: laws that hold one are no texts, so they can't hold. */
    private static void law(String truth, int holds) {
        FordLine x = new FordLine();
        int lines = tell(x, "river 1;person reach 1 at 1;holds : " + truth + ";");
        due("8: " + truth, lines < 0 ? 0 : x.holds(0, 5), holds);
    }

    private static void deeds() {
        FordLine x = ford(THREE);
        due("10: no such person", x.go(3, 1), -11);
        due("10: no such place", x.go(0, 5), -11);
        due("10: no such place", x.go(0, -1), -11);
        due("10: it is there", x.go(0, 0), -12);
        due("10: somebody is", x.go(0, 2), -12);
        due("10: no steps", x.go(1, 0), -13);
        due("10: nothing done", x.count(6), 0);
        due("10: go", x.go(0, 3), 0);
        due("10: is there", x.person(0, 0), 3);
        due("10: go back", x.go(0, 1), 3);
        due("10: a bank with somebody", x.go(0, 4), 1);
        due("46: both over", x.count(3), 0b101);
        due("14: undo", x.undo(2), 1);
        due("14: as it was", x.person(0, 0), 3);
        due("14: more than can be", x.undo(2), -3);
        due("14: none", x.undo(0), -3);
        due("14: below", x.undo(-1), -3);
        FordLine y = ford(LINE_OF_THREE);
        due("11: water", y.flood(10), -11);
        due("11: water", y.flood(-1), -11);
        due("11: nothing done", y.count(6), 0);
        due("11: nobody", y.flood(3), 0);
        due("11: all, by two looks", y.flood(4), 0b111);
        due("11: gone", y.count(2), 0);
        due("11: both can be undone", y.undo(2), 0);
        due("11: back", y.count(2), 0b111);
        due("12: strength", y.strength(1, 9), 1);
        due("12: strength", y.strength(1, 9), 9);
        due("12: person", y.strength(3, 9), -11);
        due("12: number", y.strength(1, 10), -11);
        due("12: number", y.strength(1, -1), -11);
        due("12: undone", y.undo(2), 0);
        due("12: as it was", y.person(1, 2), 1);
        due("13: depth", y.depth(3, 9), 2);
        due("13: depth", y.depth(3, 0), 9);
        due("13: spot", y.depth(4, 0), -11);
        due("13: spot", y.depth(0, 0), -11);
        due("13: number", y.depth(1, 10), -11);
        due("13: number", y.depth(1, -1), -11);
        due("13: undone", y.undo(1), 1);
        due("13: as it was", y.spot(3, 0), 9);
        for (int i = 0; i < 10; i++) y.strength(0, i);
        due("14: ten at most", y.count(6), 10);
        due("14: eleven", y.undo(11), -3);
        due("14: all ten", y.undo(10), 0);
        due("14: the eldest is forgotten", y.spot(3, 0), 9);
        due("14: as it was", y.person(0, 2), 1);
        for (int i = 0; i < 25; i++) y.strength(0, i % 10);
        for (int i = 24; i >= 15; i--) {
            due("14: one by one, how many still", y.undo(1), i - 15);
            due("14: one by one", y.person(0, 2), (i - 1) % 10);
        }
    }

    private static void trayDeeds() {
        FordLine x = ford(THREE);
        due("15: missing", x.judge(0, 0), -6);
        due("15: what ahead of missing", x.judge(0, 4), -2);
        due("15: what", x.judge(0, -1), -2);
        due("15: tray", x.judge(4, 0), -2);
        due("15: tray", x.judge(-1, 0), -2);
        due("16: missing", x.perform(3), -6);
        due("16: tray", x.perform(4), -2);
        tray(x, 0);
        due("15: none", x.judge(0, 0), -1);
        due("15: none", x.judge(0, 1), 0);
        due("16: none", x.perform(0), 0);
        due("16: nothing to undo", x.count(6), 0);
        tray(x, 0, 3, 24, 4);
        due("15: it is there", x.judge(0, 0), 1);
        due("15: why", x.judge(0, 1), 2);
        due("15: who stands then", x.judge(0, 2), 0b011);
        due("15: who is over then", x.judge(0, 3), 0b100);
        due("15: as if", x.person(0, 0), 0);
        due("16: till one can't be", x.perform(0), 1);
        due("16: done", x.person(0, 0), 3);
        due("16: as a whole", x.count(6), 1);
        tray(x, 1, 105, 209, 317, 229, 21, 4);
        due("15: all can be", x.judge(1, 0), -1);
        due("15: why", x.judge(1, 1), 0);
        due("15: who stands then", x.judge(1, 2), 0b110);
        due("15: who is over then", x.judge(1, 3), 0b001);
        due("16: all", x.perform(1), 6);
        due("16: strength", x.person(0, 2), 9);
        due("16: depth", x.spot(1, 0), 7);
        due("16: undone as a whole", x.undo(1), 1);
        due("16: strength as it was", x.person(0, 2), 3);
        due("16: place as it was", x.person(2, 0), 4);
        int[] never = {110, 199, 230, 299, 300, 340, 400, 1000, -1, 30, 99, 5};
        for (int deed : never) {
            tray(x, 2, deed);
            due("15: never " + deed, x.judge(2, 1), 1);
            due("16: never " + deed, x.perform(2), 0);
        }
        x.numbers(3, 3, 1);
        x.write(3, 0, 4294967296L + 4);
        due("15: long numbers aren't cut", x.judge(3, 1), 1);
        due("16: nothing done", x.count(6), 1);
        due("17: times", x.season(1, 0), -3);
        due("17: times", x.season(1, 41), -3);
        due("17: not changed", x.count(6), 1);
        season();
    }

    /** The draws from seed 1: 16838, 5758, 10113, 17515, 31051, 5627, .. as C's rand has it, of 16 bits here. */
    private static void season() {
        FordLine x = ford("river 6;person reach 4;person reach 4;person reach 4;person reach 4;");
        int seed = 1;
        int[] draws = new int[200];
        for (int i = 0; i < draws.length; i++) {
            seed = 1103515245 * seed + 12345;
            draws[i] = seed >>> 16;
        }
        due("17: the first draw", draws[0], 16838);
        FordLine y = ford("river 6;person reach 4;person reach 4;person reach 4;person reach 4;");
        int at = 0;
        int could = 0;
        for (int i = 0; i < 40; i++) {
            int kind = draws[at++] % 6;
            int answer;
            if (kind < 4) answer = y.go(draws[at++] % 4, draws[at++] % 8);
            else if (kind == 4) answer = y.flood(draws[at++] % 10);
            else answer = y.strength(draws[at++] % 4, draws[at++] % 10);
            if (answer >= 0) could++;
        }
        due("17: how many could be", x.season(1, 40), could);
        for (int p = 0; p < 4; p++) {
            due("17: place", x.person(p, 0), y.person(p, 0));
            due("17: strength", x.person(p, 2), y.person(p, 2));
        }
        due("17: undone as a whole", x.undo(1), 0);
        due("17: as it was", x.count(2) + x.count(3), 0);
        FordLine nobody = new FordLine();
        int flooding = 0;
        while (new FordLine().season(flooding, 1) == 1) flooding++;
        due("17: none could be", nobody.season(flooding, 1), 0);
        due("17: so nothing can be undone", nobody.count(6), 0);
    }

    private static void comingOver() {
        FordLine x = ford("river 3;person reach 2;person reach 2;trusts : who = 1;");
        due("18: by itself", x.soonest(1), 2);
        due("19: first", x.way(1, 0), 2);
        due("19: then", x.way(1, 1), 4);
        due("19: not so many", x.way(1, 2), -1);
        due("19: below", x.way(1, -1), -3);
        due("19: the set", x.way(4, 0), -3);
        due("18: nobody", x.soonest(0), 0);
        due("18: set", x.soonest(4), -3);
        due("18: set", x.soonest(-1), -3);
        due("18: both", x.soonest(3), 3);
        due("19: 0 stands", x.way(3, 0), 2);
        due("19: 1 is over by it", x.way(3, 1), 14);
        due("19: then 0", x.way(3, 2), 4);
        due("18: both, by way", x.way(3, 3), -1);
        due("20: none", x.rows(0, 0), 1);
        due("20: not over", x.rows(1, 0), 0);
        due("20: one", x.rows(0, 1), 4);
        due("20: two", x.rows(1, 2), 1);
        due("20: set", x.rows(4, 2), -3);
        due("20: n", x.rows(1, 11), -3);
        due("20: n", x.rows(1, -1), -3);
        due("21: itself", x.needed(1), 1);
        due("21: nobody", x.needed(0), 0);
        due("21: set", x.needed(4), -3);
        due("22: itself", x.movers(2), 2);
        due("22: both", x.movers(3), 3);
        due("22: nobody", x.movers(0), 0);
        due("22: set", x.movers(-1), -3);
        due("23: most", x.most(), 2);
        due("24: reach", x.reach(0), 31);
        due("24: person", x.reach(2), -2);
        FordLine walk = ford("river 3;person reach 1;person reach 1;trusts : 1 = 2;");
        due("18: from free spot to free spot", walk.soonest(1), 4);
        due("23: both", walk.most(), 2);
        due("24: everywhere", walk.reach(0), 31);
        due("25: 25 less three with both on one spot", walk.stands(), 22);
        due("20: there and back, each", walk.rows(0, 2), 4);
        FordLine blocked = ford("river 2;person reach 1;person reach 1 at 1;trusts : 1 = 2;");
        due("18: 1 has to go out of the way", blocked.soonest(1), 4);
        due("19: 1 goes back", blocked.way(1, 0), 10);
        due("19: so 0 can go", blocked.way(1, 1), 1);
        due("21: both", blocked.needed(1), 3);
        due("22: both", blocked.movers(1), 3);
        due("21: itself", blocked.needed(2), 2);
        due("22: itself", blocked.movers(2), 2);
        FordLine either = ford("river 2;person reach 1;person reach 1;person reach 2 at 1;trusts : stone = 5;");
        either.strength(2, 1);
        due("21: 2 has to go out of the way", either.needed(1), 5);
        due("22: of like ones the least", either.movers(2), 6);
        due("18: over", ford("river 2;person reach 1 at 3;").soonest(1), 0);
        due("22: over", ford("river 2;person reach 1 at 3;").movers(1), 0);
        due("20: over", ford("river 2;person reach 1 at 3;").rows(1, 0), 1);
        FordLine one = ford("river 1;person reach 1;");
        due("25: three places", one.stands(), 3);
        due("20: two", one.rows(1, 2), 1);
        due("26: two", ford(THREE).stride(0), 2);
        due("26: it is there", ford(THREE).stride(2), -1);
        due("26: person", ford(THREE).stride(3), -2);
        due("26: by none but the whole", ford("river 6;person reach 1;").stride(0), 7);
        due("26: gaps above 4 are trusted, too",
                ford("river 6;person reach 1;person reach 1 at 6;trusts:gap>5;").stride(0), 6);
        FordLine many = ford("river 6;person reach 4;person reach 4;person reach 4;person reach 4;");
        due("25: all that can be", many.stands(), 2248);
    }

    private static void water() {
        FordLine x = ford(LINE_OF_THREE);
        due("27: none", x.swept(3), 0);
        due("27: all", x.swept(4), 7);
        due("27: water", x.swept(10), -3);
        due("27: water", x.swept(-1), -3);
        due("27: would be", x.count(2), 7);
        due("28: least", x.least(1), 4);
        due("28: person", x.least(3), -2);
        due("29: calm", x.calm(), 3);
        due("30: two looks", x.looks(5), 2);
        due("30: one look", x.looks(6), 1);
        due("30: none", x.looks(0), 0);
        due("30: water", x.looks(10), -3);
        x.flood(9);
        due("28: it doesn't stand", x.least(1), -5);
        due("29: nobody there", x.calm(), 9);
        FordLine y = ford("river 2;person reach 1 at 1;holds : not water = 5;");
        due("28: not the strongest", y.least(0), 5);
        due("29: the greatest all the same", y.calm(), 9);
        FordLine z = ford("river 2;person reach 1 at 1;holds : 1 = 2;");
        due("29: by none", z.calm(), -1);
        due("28: by none", ford("river 2;person reach 1 at 1;holds : 1 = 1;").least(0), -1);
        FordLine v = ford("river 6;person reach 1 at 1;person reach 1 at 2;person reach 1 at 3;person reach 1 at 4;"
                + "holds : who < 3 and beside + (1 - who) * (2 - who) > 1;");
        due("30: three looks", v.looks(0), 3);
        due("27: but the first", v.swept(0), 14);
    }

    private static void orders() {
        FordLine x = ford("river 3;person reach 1 at 3;person reach 1 at 2;person reach 1 at 1;person reach 1;");
        due("31: one", x.orders(), 1);
        due("32: 2", x.order(0), 2);
        due("32: 1", x.order(1), 1);
        due("32: 0", x.order(2), 0);
        due("32: not so many", x.order(3), -1);
        due("32: not so many", x.order(2147483647), -1);
        due("32: below", x.order(-1), -3);
        due("33: 2", x.firsts(), 4);
        FordLine y = ford("river 3;person reach 4 at 3;person reach 4 at 2;person reach 4 at 4;");
        due("31: all", y.orders(), 6);
        due("32: first", y.order(0), 0);
        due("32: last", y.order(2), 2);
        due("33: all", y.firsts(), 7);
        FordLine z = ford("river 3;person reach 1 at 2;");
        due("31: none", z.orders(), 0);
        due("32: none", z.order(0), -1);
        due("33: none", z.firsts(), 0);
        FordLine w = ford("river 3;person reach 1;person reach 1;");
        due("31: all on the near bank", w.orders(), 1);
        due("32: nobody", w.order(0), -1);
        due("33: nobody", w.firsts(), 0);
        FordLine v = ford("river 4;person reach 1 at 1;person reach 1 at 2;person reach 1 at 4;");
        due("33: who could be first, but not to an end", v.firsts(), 0);
    }

    private static void felt() {
        FordLine x = ford("river 2;person reach 1 strength 4 at 1;person reach 1;");
        tray(x, 0, 13, 14);
        due("34: 6", x.strengths(0, 0), 64);
        due("35: nothing to tell apart", x.attempt(0, 0), 0);
        due("34: it doesn't stand", x.strengths(0, 1), -5);
        due("35: it doesn't stand", x.attempt(0, 1), -5);
        due("34: person", x.strengths(0, 2), -2);
        due("34: tray", x.strengths(4, 0), -2);
        due("34: tray", x.strengths(-1, 0), -2);
        due("34: missing", x.strengths(1, 0), -6);
        due("34: person ahead of missing", x.strengths(1, 2), -2);
        tray(x, 0, 9, 9, 9, 9, 9, 9, 9, 9, 9, 9, 9, 12);
        due("34: twelve", x.strengths(0, 0), 0b110000);
        due("35: 5", x.attempt(0, 0), 5);
        tray(x, 0, 9, 9, 9, 9, 9, 9, 9, 9, 9, 9, 9, 9, 9);
        due("34: thirteen", x.strengths(0, 0), -4);
        due("35: thirteen", x.attempt(0, 0), -4);
        tray(x, 0);
        due("34: none", x.strengths(0, 0), -4);
        tray(x, 0, 9, 20);
        due("34: none such", x.strengths(0, 0), -3);
        due("34: none such ahead of where it is", x.strengths(0, 1), -3);
        tray(x, 0, 9, -1);
        due("34: none such", x.strengths(0, 0), -3);
        tray(x, 0, 13, 12);
        due("34: it can't be", x.strengths(0, 0), 0);
        due("35: there are none", x.attempt(0, 0), -1);
        tray(x, 0, 1);
        due("34: all", x.strengths(0, 0), 1023);
        due("35: the middle", x.attempt(0, 0), 5);
        due("34: as it is", x.person(0, 2), 4);
    }

    private static void pairs() {
        FordLine x = ford("river 2;person reach 1;person reach 1;person reach 1;person reach 1;"
                + "trusts : gap > 1 or who = 0 and stone = 5 or stone = 5 and who = 1 or who = 2 or who = 3;");
        due("36: two", x.pairs(0), 2);
        due("36: the least", x.pairs(10), 1);
        due("36: the least", x.pairs(12), 3);
        x.strength(1, 4);
        due("36: 1 isn't trusted by 0, nor by itself", x.pairs(10), 2);
        due("36: so with 3", x.pairs(11), 3);
        x.strength(0, 4);
        due("36: what", x.pairs(1), -2);
        due("36: what", x.pairs(9), -2);
        due("36: what", x.pairs(14), -2);
        due("36: what", x.pairs(-1), -2);
        FordLine y = ford("river 2;person reach 1 family 1;person reach 1 family 2;person reach 1 family 1;"
                + "trusts : family = theirs;");
        due("36: one", y.pairs(0), 1);
        due("36: with 2", y.pairs(10), 2);
        due("36: none", y.pairs(11), -1);
        due("36: with 0", y.pairs(12), 0);
        FordLine z = ford("river 1;person reach 1 family 0;person reach 1 family 1;person reach 1 family 2;"
                + "person reach 1 family 3;trusts : family + theirs = 1 or family * theirs = 2 or family * theirs = 0 "
                + "and family + theirs = 3;");
        due("36: 0 with 3 and 1 with 2, or 0 with 1 alone", z.pairs(0), 2);
        due("36: the most ahead of the first", z.pairs(10), 3);
        due("36: the most ahead of the first", z.pairs(11), 2);
    }

    private static void byTurns() {
        FordLine x = ford("river 2;tide 5;person reach 2 strength 5;person reach 2 strength 4;person reach 1 at 3;");
        due("37: held all the while", x.forces(0), 2);
        due("38: the first", x.best(0), 1);
        due("37: it is over", x.forces(2), 0);
        due("38: it is over", x.best(2), -1);
        due("37: by another one as a stone", x.forces(1), 2);
        due("38: the first", x.best(1), 1);
        due("37: person", x.forces(3), -2);
        due("38: person", x.best(3), -2);
        FordLine y = ford("river 2;tide 5;person reach 2 strength 4;");
        due("37: swept each time", y.forces(0), -1);
        due("38: so none", y.best(0), -1);
        FordLine z = ford("river 3;tide 0;person reach 1 strength 0 at 1;person reach 1 strength 0 at 2;"
                + "person reach 1;holds : who < 2;");
        due("37: nobody holds but two", z.forces(0), 2);
        due("38: ", z.best(0), 3);
        FordLine stay = ford("river 1;tide 9;person reach 1 strength 0;person reach 2 strength 0;");
        due("37: in one turn by itself", stay.forces(1), 1);
        due("38: straight over", stay.best(1), 12);
        due("37: never", stay.forces(0), -1);
        FordLine way = ford("river 1;person reach 1 strength 9;person reach 2;person reach 1 family 2 at 1 strength 1;"
                + "trusts : family = theirs;");
        due("37: 2 has to go out of the way, then twice 0", way.forces(0), 3);
        due("38: the river needn't sweep it, so not 12", way.best(0), 20);
    }

    private static void springs() {
        FordLine x = ford(LINE_OF_THREE);
        due("39: above", x.chance(1, 1, 0), 2);
        due("39: below", x.chance(1, 1, 1), 5);
        due("39: none", x.chance(1, 0, 0), 1);
        due("39: none", x.chance(1, 0, 1), 1);
        due("39: six", x.chance(1, 6, 0), 64);
        due("39: six", x.chance(1, 6, 1), 15625);
        due("39: n", x.chance(1, 7, 0), -3);
        due("39: n", x.chance(1, -1, 0), -3);
        due("39: what ahead of n", x.chance(1, 7, 2), -2);
        due("39: what", x.chance(1, 1, -1), -2);
        due("39: person", x.chance(3, 1, 0), -2);
        due("40: above", x.mean(1, 0), 6);
        due("40: below", x.mean(1, 1), 5);
        due("40: none", x.mean(0, 0), 3);
        due("40: none", x.mean(0, 1), 1);
        due("40: n", x.mean(7, 0), -3);
        due("40: n", x.mean(-1, 0), -3);
        due("40: what", x.mean(7, 2), -2);
        due("40: what", x.mean(1, -1), -2);
        due("39: as it is", x.count(2), 7);
        x.flood(9);
        due("39: it doesn't stand", x.chance(1, 1, 0), -5);
        due("39: n ahead of where it is", x.chance(1, 7, 0), -3);
        due("40: nobody", x.mean(6, 0), 0);
        due("40: nobody", x.mean(6, 1), 1);
        FordLine y = ford("river 2;person reach 1 strength 9 at 1;person reach 1 strength 8 at 2;person reach 1 at 3;");
        due("39: for sure", y.chance(0, 6, 0), 1);
        due("39: for sure", y.chance(0, 6, 1), 1);
        due("39: nine of ten, six times", y.chance(1, 6, 0), 531441);
        due("39: nine of ten, six times", y.chance(1, 6, 1), 1000000);
        due("40: both", y.mean(6, 0), 1531441);
        due("40: who is over doesn't stand", y.mean(0, 0), 2);
    }

    private static void trays() {
        FordLine x = ford(THREE);
        due("41: tray", x.numbers(4, 0, 1), -2);
        due("41: tray", x.numbers(-1, 0, 1), -2);
        due("41: sort", x.numbers(0, 4, 1), -2);
        due("41: sort ahead of n", x.numbers(0, -1, 41), -2);
        due("41: n", x.numbers(0, 0, 41), -3);
        due("41: n", x.numbers(0, 0, -1), -3);
        due("42: missing", x.write(0, 0, 1), -6);
        due("42: tray", x.write(4, 0, 1), -2);
        due("41: forty", x.numbers(0, 0, 40), 0);
        due("42: the last", x.write(0, 39, 127), 127);
        due("42: no such number", x.write(0, 40, 1), -7);
        due("42: no such number", x.write(0, -1, 1), -7);
        due("42: cut", x.write(0, 0, 128), -128);
        due("42: cut", x.write(0, 0, 256 + 5), 5);
        x.numbers(1, 1, 1);
        due("42: 16", x.write(1, 0, 65536 + 32768), -32768);
        x.numbers(2, 2, 1);
        due("42: 32", x.write(2, 0, 1L << 31), -(1L << 31));
        x.numbers(3, 3, 1);
        due("42: 64", x.write(3, 0, Long.MIN_VALUE), Long.MIN_VALUE);
        due("41: stays if refused", x.numbers(2, 2, 41), -3);
        due("41: so it has one", x.write(2, 0, 7), 7);
        due("41: none", x.numbers(2, 2, 0), 0);
        due("41: so it has none", x.write(2, 0, 7), -7);
        tray(x, 0, 111);
        x.numbers(0, 1, 2);
        due("41: all 0 again", x.judge(0, 1), 2);
        due("43: tray", x.lists(4, 9), -2);
        x.numbers(0, 0, 2);
        due("43: set", x.lists(0, 8), -3);
        due("43: set", x.lists(0, -1), -3);
        due("43: as far as it has places", x.lists(0, 7), 2);
        due("43: 3 and 14, but not 4", x.judge(0, 3), 6);
        x.numbers(0, 0, 5);
        due("43: three", x.lists(0, 7), 3);
        due("43: as it is judged", x.judge(0, 3), 7);
        due("43: behind these all is 0, which can't be", x.judge(0, 0), 3);
        due("43: nobody", x.lists(0, 0), 0);
        FordLine missing = ford(THREE);
        due("43: missing ahead of the set", missing.lists(0, 8), -6);
        FordLine shut = ford("river 3;person reach 1;");
        tray(shut, 0, 1, 7, 7);
        due("43: those behind stay", shut.lists(0, 0), 0);
        due("43: those behind stay", shut.judge(0, 0), 1);
    }

    private static void images() {
        FordLine x = ford(THREE);
        due("44: no such", x.image(2), -2);
        due("44: no such", x.image(-1), -2);
        due("45: no such", x.restore(2), -2);
        due("45: no such", x.restore(-1), -2);
        due("45: none was made", x.restore(0), -5);
        x.go(0, 1);
        x.strength(1, 3);
        x.depth(3, 8);
        due("44: made", x.image(0), 0);
        due("44: what can be undone stays", x.count(6), 3);
        due("45: not the other one", x.restore(1), -5);
        due("44: tell another river", tell(x, "river 1;tide 3;"), 2);
        due("44: the other image", x.image(1), 0);
        x.numbers(0, 0, 3);
        feed(x, "x");
        due("45: back", x.restore(0), 0);
        due("45: place", x.person(0, 0), 1);
        due("45: strength", x.person(1, 2), 3);
        due("45: depth", x.spot(3, 0), 8);
        due("45: lines", x.count(8), 4);
        due("45: tide", x.count(5), 5);
        due("45: nothing can be undone", x.count(6), 0);
        due("45: the tape stays", x.count(7), 20);
        due("45: trays stay", x.write(0, 2, 1), 1);
        x.go(0, 4);
        due("45: again", x.restore(0), 0);
        due("45: as it was", x.person(0, 0), 1);
        due("45: the other one", x.restore(1), 0);
        due("45: people", x.count(1), 0);
        due("45: tide", x.count(5), 3);
    }

    private static void counts() {
        FordLine x = ford("river 3;tide 8;person reach 2 strength 3;person reach 1 strength 7 at 2;person reach 4 at 4;");
        due("46: spots", x.count(0), 3);
        due("46: people", x.count(1), 3);
        due("46: stands", x.count(2), 2);
        due("46: over", x.count(3), 4);
        due("46: strengths", x.count(4), 15);
        due("46: tide", x.count(5), 8);
        due("46: undone", x.count(6), 0);
        due("46: tape", x.count(7), 0);
        due("46: lines", x.count(8), 5);
        due("46: others", x.count(9), -1);
        due("46: others", x.count(-1), -1);
    }

    public static void main(String[] args) {
        newObject();
        tape();
        rivers();
        faults();
        people();
        laws();
        deeds();
        trayDeeds();
        comingOver();
        water();
        orders();
        felt();
        pairs();
        byTurns();
        springs();
        trays();
        images();
        counts();
        System.out.println(asked + " answers, " + wrong + " not as due");
        if (wrong > 0) System.exit(1);
    }
}
