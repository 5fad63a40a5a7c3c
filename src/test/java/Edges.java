import java.io.IOException;
import java.io.UncheckedIOException;
import java.nio.file.Files;
import java.nio.file.Path;
import java.util.ArrayList;
import java.util.Arrays;
import java.util.LinkedHashMap;
import java.util.List;
import java.util.Map;
import java.util.Set;
import java.util.TreeSet;
import java.util.function.Supplier;
import java.util.function.ToLongFunction;
import java.util.regex.Matcher;
import java.util.regex.Pattern;

/**
 * What the tests of single sentences share. Each test begins with says(..), its sentence in the document's own words;
 * at the end nothing of what the document says there may be left that no test has told.
 */
final class Edges {
    /** A call with one number that is tried at its bounds. */
    interface Call {
        long on(FordLine x, int n);
    }

    static final int LEAST = Integer.MIN_VALUE;
    static final int GREATEST = Integer.MAX_VALUE;

    private static final int PARTS = 5;

    private final String document;
    private final Map<String, List<String>> said = new LinkedHashMap<>();
    private final Map<String, Set<Long>> codes = new LinkedHashMap<>();
    private String where = "";
    private String sentence = "";
    private Supplier<FordLine> world = Edges::full;
    private int asked = 0;
    private int wrong = 0;

    Edges() {
        try {
            document = Files.readString(Path.of("../shared/DOC.md"));
        } catch (IOException e) {
            throw new UncheckedIOException(e);
        }
    }

    // ---- the document

    /** What the document says under a head: "Promise 7", or "Terms 1" to "Terms 3" (its parts behind ==== 1 to 3,
     *  but for TRAYS and what follows, which is "Terms 4"). */
    private String told(String head) {
        String from;
        String to;
        switch (head) {
            case "Terms 1": from = "## Terms\n"; to = "==== 2."; break;
            case "Terms 2": from = "==== 2."; to = "==== 3."; break;
            case "Terms 3": from = "==== 3."; to = "TRAYS 0 to 3"; break;
            case "Terms 4": from = "TRAYS 0 to 3"; to = "The constants:"; break;
            case "Constants": from = "The constants:"; to = "Ahead of the calls"; break;
            case "Calls": from = "An object is used"; to = "## The public face"; break;
            default: from = "## " + head + ":"; to = "\n## "; break;
        }
        int begin = document.indexOf(from);
        int end = document.indexOf(to, begin + from.length());
        String text = begin < 0 || end < 0 ? "" : document.substring(begin, end);
        if (head.startsWith("Promise")) text = text.substring(text.indexOf("`: ") + 3);
        return plain(text.replace("```text", " ").replace("```", " "));
    }

    private static String plain(String text) {
        return text.replaceAll("\\s+", " ").trim();
    }

    /** From here on this sentence is held, in the world that every sentence begins with. */
    void says(String head, String words) {
        where = head;
        sentence = plain(words);
        world = Edges::full;
        said.computeIfAbsent(head, h -> new ArrayList<>()).add(sentence);
        if (!told(head).contains(sentence)) {
            wrong++;
            System.out.println(head + " doesn't say: " + sentence);
        }
    }

    void due(String what, long got, long want) {
        asked++;
        if (got != want) {
            wrong++;
            System.out.println(where + ", " + sentence + "\n    " + what + " answered " + got + ", due is " + want);
        }
    }

    void right(String what, boolean is) {
        due(what, is ? 1 : 0, 1);
    }

    // ---- calls that change nothing

    void in(Supplier<FordLine> newWorld) {
        world = newWorld;
    }

    /** The code of a refused call, and that behind it all is as in a twin that was never asked. */
    void refused(long code, String what, ToLongFunction<FordLine> call) {
        codes.computeIfAbsent(where, h -> new TreeSet<>()).add(code);
        unchanged(code, what, call);
    }

    /** A code that the document tells, but that no run of calls can bring; the test says why. */
    void neverRefused(long code) {
        codes.computeIfAbsent(where, h -> new TreeSet<>()).add(code);
    }

    void refusedEach(long code, String what, Call call, int... values) {
        for (int n : values) refused(code, what + " with " + n, x -> call.on(x, n));
    }

    /** An answer that changes nothing. */
    void unchanged(long answer, String what, ToLongFunction<FordLine> call) {
        for (int part = 0; part < PARTS; part++) {
            FordLine x = world.get();
            FordLine twin = world.get();
            due(what, call.applyAsLong(x), answer);
            long[] then = seen(x, part);
            long[] before = seen(twin, part);
            right(what + " changes nothing (" + part + ")", Arrays.equals(then, before));
        }
    }

    /** A text with a FAULT: its code, its place; THE TAPE is empty, and all else stays. */
    void faulty(int kind, int place, String text) {
        codes.computeIfAbsent(where, h -> new TreeSet<>()).add(-30L - kind);
        for (int part = 0; part < PARTS; part++) {
            FordLine x = fullBut();
            FordLine twin = fullBut();
            due("river of " + text, tell(x, text), -30 - kind);
            due("fault(0) of " + text, x.fault(0), kind);
            due("fault(1) of " + text, x.fault(1), place);
            due("bytes on the tape behind " + text, x.count(7), 0);
            tell(twin, "?");
            tell(x, "?");
            right("all stays (" + part + ") with " + text, Arrays.equals(seen(x, part), seen(twin, part)));
        }
    }

    /** Where the place of the FAULT is marked by a ~ that isn't in the text. */
    void faulty(int kind, String marked) {
        faulty(kind, marked.indexOf('~'), marked.replace("~", ""));
    }

    void fault(int kind, String marked) {
        fault(kind, marked.indexOf('~'), marked.replace("~", ""));
    }

    /** The FAULT alone, for the many texts. */
    void fault(int kind, int place, String text) {
        FordLine x = new FordLine();
        due("river of " + text, tell(x, text), -30 - kind);
        due("fault(0) of " + text, x.fault(0), kind);
        due("fault(1) of " + text, x.fault(1), place);
    }

    /** A text without a FAULT. */
    FordLine fine(int lines, String text) {
        FordLine x = new FordLine();
        due("river of " + text, tell(x, text), lines);
        due("fault(0) of " + text, x.fault(0), 0);
        due("fault(1) of " + text, x.fault(1), -1);
        return x;
    }

    // ---- all that can be seen of an object; each part has its own calls, as there are 512 at most

    private static long[] seen(FordLine x, int part) {
        List<Long> all = new ArrayList<>();
        switch (part) {
            case 0: seePast(x, all); break;
            case 1: seeTape(x, all); break;
            case 2: seeTrays(x, all); break;
            case 3: seeImages(x, all); break;
            default:
                all.add((long) x.river(x.count(7)));
                seePresent(x, all);
                break;
        }
        return all.stream().mapToLong(Long::longValue).toArray();
    }

    private static void seePresent(FordLine x, List<Long> all) {
        all.add((long) x.fault(0));
        all.add((long) x.fault(1));
        for (int what = 0; what <= 8; what++) all.add((long) x.count(what));
        for (int p = 0; p < 4; p++) for (int what = 0; what <= 4; what++) all.add((long) x.person(p, what));
        for (int s = 1; s <= 6; s++) for (int what = 0; what <= 1; what++) all.add((long) x.spot(s, what));
        for (int p = 0; p < 4; p++) all.add((long) x.trusts(p, (p + 1) % 4, 2));
        for (int p = 0; p < 4; p++) all.add((long) x.holds(p, 5));
    }

    private static void seePast(FordLine x, List<Long> all) {
        seePresent(x, all);
        for (int i = 0; i < 11; i++) {
            all.add((long) x.undo(1));
            for (int p = 0; p < 4; p++) all.add((long) x.person(p, 0));
            for (int p = 0; p < 4; p++) all.add((long) x.person(p, 2));
            for (int s = 1; s <= 6; s++) all.add((long) x.spot(s, 0));
        }
    }

    private static void seeTape(FordLine x, List<Long> all) {
        for (int i = 0; i < 46; i++) all.add((long) x.feed(0, 0, 0, 0, 0));
        all.add((long) x.count(7));
    }

    /** Number by number: how a TRAY is judged, then a FLOOD that sweeps nobody in its place; at last how it is cut. */
    private static void seeTrays(FordLine x, List<Long> all) {
        for (int tray = 0; tray < 4; tray++) {
            for (int p = 0; p < 4; p++) all.add((long) x.strengths(tray, p));
            for (int i = 0; i < 8; i++) {
                for (int what = 0; what <= 3; what++) all.add((long) x.judge(tray, what));
                all.add(x.write(tray, i, 100));
            }
            for (int i = 40; i >= 0; i -= 3) all.add(x.write(tray, i, 0x76543210fedcba98L));
        }
    }

    private static void seeImages(FordLine x, List<Long> all) {
        for (int i = 0; i < 2; i++) {
            all.add((long) x.restore(i));
            seePresent(x, all);
        }
    }

    // ---- worlds

    /**
     * Much of everything: 4 PEOPLE (two STAND, one is on each bank), both laws, 10 calls that can be UNDONE and one that
     * was forgotten, an IMAGE 0 and no IMAGE 1, TRAYS 0 (DEEDS), 1 (FELT), 3 (of 64 bits) and no TRAY 2, a FAULT.
     */
    private static FordLine fullBut() {
        FordLine x = ford("river 6;depth 1 2 3 4 5 6;tide 4;person reach 2 strength 6 family 1 at 2;"
                + "person reach 1 strength 3 family 1;person reach 3 strength 8 family 2 at 5;"
                + "person reach 4 strength 9 at 7;"
                + "holds : strength + beside * 2 > water;trusts : family = theirs or stone > gap + 1;");
        x.strength(0, 7);
        x.depth(6, 9);
        x.go(1, 1);
        x.image(0);
        tray(x, 0, 1, 11, 105, 209, 321, 1000, 7);
        tray(x, 1, 0, 13, 18);
        tray(x, 3, 3, 2, 20);
        x.strength(1, 4);
        x.depth(1, 8);
        x.flood(6);
        x.go(0, 1);
        x.strength(3, 8);
        x.go(0, 2);
        x.depth(2, 7);
        x.go(2, 4);
        tell(x, "river 2;tide 77;");
        return x;
    }

    /** And on THE TAPE a text. */
    static FordLine full() {
        FordLine x = fullBut();
        feed(x, "river 2;person reach 2 at 2;tide 1;     ");
        return x;
    }

    /** THE TAPE with so many bytes (a multiple of 20), the text of a river with blanks behind. */
    static FordLine tape(int bytes) {
        FordLine x = new FordLine();
        feed(x, "river 2;tide 6;     ");
        for (int i = 20; i < bytes; i += 20) x.feed(0x20202020, 0x20202020, 0x20202020, 0x20202020, 0x20202020);
        return x;
    }

    static void feed(FordLine x, String text) {
        for (int from = 0; from < text.length(); from += 20) {
            int[] ints = new int[5];
            for (int i = 0; i < 20; i++) {
                char c = from + i < text.length() ? text.charAt(from + i) : ' ';
                ints[i / 4] = ints[i / 4] << 8 | c & 255;
            }
            x.feed(ints[0], ints[1], ints[2], ints[3], ints[4]);
        }
    }

    static int tell(FordLine x, String text) {
        feed(x, text);
        return x.river(text.length());
    }

    static FordLine ford(String text) {
        FordLine x = new FordLine();
        if (tell(x, text) < 1) throw new IllegalArgumentException("fault at " + x.fault(1) + " of " + text);
        return x;
    }

    /** A TRAY of a sort with these numbers. */
    static void tray(FordLine x, int tray, int sort, long... numbers) {
        x.numbers(tray, sort, numbers.length);
        for (int i = 0; i < numbers.length; i++) x.write(tray, i, numbers[i]);
    }

    // ---- the end

    /** Whether all that the document says under these heads was told by a test, with every code. */
    private void nothingLeft(String head) {
        String left = told(head);
        if (head.startsWith("Terms")) left = left.replaceFirst("^(## Terms|==== [23]\\.)", " ");
        List<String> longestFirst = new ArrayList<>(said.getOrDefault(head, List.of()));
        longestFirst.sort((a, b) -> b.length() - a.length());
        for (String words : longestFirst) left = left.replace(words, " | ");
        if (Pattern.compile("[A-Za-z0-9]").matcher(left).find()) {
            wrong++;
            System.out.println(head + ": no test for: " + left);
        }
        if (!head.startsWith("Promise")) return;
        Matcher m = Pattern.compile("(?<![\\w-])-(\\d+)(?: to -(\\d+))?").matcher(told(head));
        while (m.find()) {
            long first = Long.parseLong(m.group(1));
            long last = m.group(2) != null ? Long.parseLong(m.group(2)) : first;
            if (first == 30) {
                first = 31;
                last = 34;
            }
            for (long code = first; code <= last; code++) {
                if (!codes.getOrDefault(head, Set.of()).contains(-code)) {
                    wrong++;
                    System.out.println(head + ": no refused call for -" + code);
                }
            }
        }
    }

    void end(String... heads) {
        for (String head : heads) nothingLeft(head);
        int sentences = said.values().stream().mapToInt(List::size).sum();
        System.out.println(sentences + " sentences, " + asked + " answers, " + wrong + " not as due");
        if (wrong > 0) System.exit(1);
    }

    static String[] promises(int from, int to, String... more) {
        List<String> heads = new ArrayList<>(List.of(more));
        for (int n = from; n <= to; n++) heads.add("Promise " + n);
        return heads.toArray(new String[0]);
    }
}
