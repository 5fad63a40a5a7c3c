import java.util.ArrayList;
import java.util.List;
import java.util.Random;

/** Texts of rivers, made up: right ones, and right ones with something wrong. */
final class Texts {
    private static final String[] IN_HOLDS = {"who", "strength", "spot", "depth", "beside", "water"};
    private static final String[] IN_TRUSTS = {"who", "strength", "family", "theirs", "stone", "gap"};
    private static final String[] ALL = {"who", "strength", "spot", "depth", "beside", "water", "family", "theirs",
        "stone", "gap", "river", "tide", "person", "reach", "at", "holds", "trusts", "or", "and", "not", ";", ":",
        "+", "-", "*", "(", ")", "[", "]", "=", "<", ">", "0", "1", "2", "7", "10", "009", "999", "1000", "strengths",
        "Person", "?", "#", "\t", "\u00e9"};

    private final Random random;

    Texts(Random random) {
        this.random = random;
    }

    private int below(int n) {
        return random.nextInt(n);
    }

    private String sum(String[] words, int deep) {
        StringBuilder text = new StringBuilder(term(words, deep));
        for (int i = below(3); i > 1; i--) text.append(below(2) == 0 ? " + " : " - ").append(term(words, deep));
        return text.toString();
    }

    private String term(String[] words, int deep) {
        StringBuilder text = new StringBuilder(atom(words, deep));
        for (int i = below(4); i > 2; i--) text.append(" * ").append(atom(words, deep));
        return text.toString();
    }

    private String atom(String[] words, int deep) {
        int kind = below(10);
        if (kind < 3) return "" + (below(8) == 0 ? below(1000) : below(10));
        if (kind == 3 && deep > 0) return "(" + sum(words, deep - 1) + ")";
        return words[below(words.length)];
    }

    private String unit(String[] words, int deep) {
        int kind = below(8);
        if (kind == 0 && deep > 0) return "not " + unit(words, deep - 1);
        if (kind == 1 && deep > 0) return "[" + truth(words, deep - 1) + "]";
        return sum(words, deep) + " " + "=<>".charAt(below(3)) + " " + sum(words, deep);
    }

    private String truth(String[] words, int deep) {
        StringBuilder text = new StringBuilder(unit(words, deep));
        for (int i = below(3); i > 0; i--) text.append(below(2) == 0 ? " and " : " or ").append(unit(words, deep));
        return text.toString();
    }

    /** Laws by which something happens more often than by those thrown together. */
    private String holdsLaw() {
        switch (below(6)) {
            case 0: return "strength + beside * 2 > water";
            case 1: return "not water > strength + beside - depth";
            case 2: return "water < strength or beside = 2 or [spot = 1 and water < 7]";
            case 3: return "strength * (beside + 1) > water + depth";
            default: return truth(IN_HOLDS, 4);
        }
    }

    private String trustsLaw() {
        switch (below(6)) {
            case 0: return "family = theirs or stone > 6";
            case 1: return "gap < 3 and not who = 0 or theirs = 1";
            case 2: return "stone + gap > strength - 2";
            case 3: return "stone > 2 * gap";
            default: return truth(IN_TRUSTS, 4);
        }
    }

    String right(int mostPeople, int mostSpots) {
        int spots = 1 + below(mostSpots);
        List<String> lines = new ArrayList<>();
        for (int i = below(2); i > 0; i--) {
            StringBuilder depths = new StringBuilder("depth");
            for (int s = 0; s < spots; s++) depths.append(' ').append(below(10));
            lines.add(depths.toString());
        }
        for (int i = below(2); i > 0; i--) lines.add("tide " + below(10));
        for (int i = below(3); i > 1; i--) lines.add("holds : " + holdsLaw());
        for (int i = below(3); i > 1; i--) lines.add("trusts : " + trustsLaw());
        List<Integer> free = new ArrayList<>();
        for (int s = 1; s <= spots; s++) free.add(s);
        for (int p = below(mostPeople + 1); p > 0; p--) lines.add(below(lines.size() + 1), person(spots, free));
        StringBuilder text = new StringBuilder("river " + spots + ";");
        for (String line : lines) text.append(line).append(below(4) == 0 ? " ;\n" : ";");
        return text.toString();
    }

    private String person(int spots, List<Integer> free) {
        StringBuilder text = new StringBuilder("person reach ");
        text.append(1 + below(below(2) == 0 ? 2 : 4));
        if (below(2) == 0) text.append(" strength ").append(below(10));
        if (below(2) == 0) text.append(" family ").append(below(3));
        if (below(2) == 0 && !free.isEmpty()) {
            text.append(" at ").append(free.remove(below(free.size())));
        } else if (below(4) == 0) {
            text.append(" at ").append(spots + 1);
        }
        if (below(9) == 0) text.append(" strength ").append(below(10));
        return text.toString();
    }

    /** Something put in, left out, or put in place of something else. */
    String wrong(String right) {
        StringBuilder text = new StringBuilder(right);
        int at = below(text.length() + 1);
        String put = ALL[below(ALL.length)];
        switch (below(6)) {
            case 0: return text.insert(at, " " + put + " ").toString();
            case 1: return text.insert(at, put).toString();
            case 2: return text.substring(0, at);
            case 3: return text.delete(at, Math.min(text.length(), at + 1 + below(6))).toString();
            case 4: return text.insert(at, "not [(".substring(0, 1 + below(6))).toString();
            default: return replaced(text.toString(), put);
        }
    }

    private String replaced(String text, String put) {
        List<Model.Token> tokens = Model.tokens(text);
        Model.Token one = tokens.get(below(tokens.size()));
        return text.substring(0, one.place()) + put + text.substring(one.place() + one.text().length());
    }
}
