import java.util.ArrayList;
import java.util.List;
import java.util.Random;

/** Writes texts of VILLAGES by a seeded random, whole ones and spoilt ones. */
final class Writer {
    private static final String[] SPOILERS = {"deed", "place", "smell", "does", "path", "to", "case", "bar", "when",
        "pull", "day", "hears", "start", "age", "draw", "or", "and", "not", "bones", "hour", "here", "a", "b", "pa", "ca",
        "x", "abcdefgh", "abcdefghi", "0", "1", "9", "10", "24", "999", "1000", "12345", "7x", ";", "(", ")", "<", ">",
        "=", "+", "-", "*", "/", "%", "$", "A", "\t"};
    final Random random;
    int units;

    Writer(Random random) {
        this.random = random;
    }

    int below(int n) {
        return random.nextInt(n);
    }

    List<String> tokens(int mostPlaces) {
        List<String> t = new ArrayList<>();
        int deeds = 1 + below(4);
        int places = 1 + below(mostPlaces);
        int cases = below(8) == 0 ? 0 : 1 + below(4);
        for (int d = 0; d < deeds; d++) {
            add(t, "deed", "" + (char) ('a' + d), ";");
        }
        for (int p = 0; p < places; p++) {
            add(t, "place", "p" + (char) ('a' + p), "smell", "" + below(10), "does", "" + (char) ('a' + below(deeds)), ";");
        }
        paths(t, places);
        for (int c = 0; c < cases; c++) {
            add(t, "case", "c" + (char) ('a' + c), "bar", "" + (1 + below(below(3) == 0 ? 15 : 4)), ";");
        }
        for (int d = 0; d < deeds; d++) {
            for (int c = 0; c < cases; c++) {
                if (below(5) != 0) {
                    add(t, "when", "" + (char) ('a' + d), "c" + (char) ('a' + c));
                    if (below(3) == 0) {
                        t.add("-");
                    }
                    add(t, "" + below(4), ";");
                }
            }
        }
        once(t, places);
        return t;
    }

    private void paths(List<String> t, int places) {
        int told = 0;
        int odds = 1 + below(4);
        for (int p = 0; p < places; p++) {
            for (int q = p + 1; q < places && told < 16; q++) {
                if (below(4) < odds) {
                    boolean turned = below(2) == 0;
                    add(t, "path", "p" + (char) ('a' + (turned ? q : p)), "to", "p" + (char) ('a' + (turned ? p : q)), ";");
                    told++;
                }
            }
        }
    }

    private void once(List<String> t, int places) {
        if (below(6) != 0) {
            t.add("pull");
            units = 0;
            if (below(3) == 0) {
                formula(t, 0);
            } else {
                add(t, "smell", "+", "bones", "*", "" + (1 + below(9)));
                if (below(2) == 0) {
                    t.add("+");
                    term(t, 0);
                }
            }
            t.add(";");
        }
        String[] words = {"day", "hears", "age", "draw"};
        int[] least = {1, 1, 0, 0};
        int[] most = {24, 24, 99, 999};
        for (int i = 0; i < words.length; i++) {
            if (below(3) != 0) {
                int bound = below(3) == 0 ? most[i] : Math.min(4, most[i]);
                add(t, words[i], "" + (i > 1 ? below(most[i] + 1) : least[i] + below(bound)), ";");
            }
        }
        if (below(2) == 0) {
            add(t, "start", "p" + (char) ('a' + below(places)), ";");
        }
    }

    private void formula(List<String> t, int depth) {
        one(t, depth);
        while (below(3) == 0 && units < 28) {
            t.add(below(2) == 0 ? "and" : "or");
            one(t, depth);
        }
    }

    private void one(List<String> t, int depth) {
        if (below(5) == 0 && depth < 7) {
            t.add("not");
            one(t, depth + 1);
            return;
        }
        sum(t, depth);
        if (below(4) == 0 && units < 28) {
            t.add("<>=".substring(below(3)).substring(0, 1));
            sum(t, depth);
        }
    }

    private void sum(List<String> t, int depth) {
        term(t, depth);
        while (below(2) == 0 && units < 28) {
            t.add(below(2) == 0 ? "+" : "-");
            term(t, depth);
        }
    }

    private void term(List<String> t, int depth) {
        unit(t, depth);
        while (below(3) == 0 && units < 28) {
            t.add("*/%".substring(below(3)).substring(0, 1));
            unit(t, depth);
        }
    }

    private void unit(List<String> t, int depth) {
        units++;
        String[] quantities = {"smell", "bones", "hour", "age", "here"};
        if (below(5) == 0 && depth < 7 && units < 24) {
            t.add("(");
            formula(t, depth + 1);
            t.add(")");
        } else if (below(4) == 0) {
            t.add("" + below(below(2) == 0 ? 10 : 10000));
        } else {
            t.add(quantities[below(5)]);
        }
    }

    private static void add(List<String> t, String... more) {
        t.addAll(List.of(more));
    }

    /** One token put in, left out, doubled or changed; or the text is cut off. */
    void spoil(List<String> t) {
        int at = below(t.size() + 1);
        String spoiler = SPOILERS[below(SPOILERS.length)];
        switch (below(5)) {
            case 0: t.add(at, spoiler); break;
            case 1: if (at < t.size()) { t.remove(at); } break;
            case 2: if (at < t.size()) { t.add(at, t.get(below(t.size()))); } break;
            case 3: if (at < t.size()) { t.set(at, spoiler); } break;
            default: if (below(3) == 0) { t.subList(at, t.size()).clear(); } else if (at < t.size()) { t.set(at, spoiler); } break;
        }
    }

    /** Blanks stand where they must, and here and there. */
    String text(List<String> t) {
        StringBuilder s = new StringBuilder();
        for (String token : t) {
            boolean word = s.length() > 0 && Character.isLetterOrDigit(s.charAt(s.length() - 1))
                    && Character.isLetterOrDigit(token.charAt(0));
            if (word && below(200) != 0 || below(30) == 0) {
                s.append(below(8) == 0 ? "\n" : " ");
            }
            s.append(token);
        }
        return s.length() > 1600 ? s.substring(0, 1600) : s.toString();
    }
}
