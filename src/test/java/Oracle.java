import java.math.BigInteger;
import java.util.ArrayList;
import java.util.Arrays;
import java.util.LinkedList;
import java.util.List;

/**
 * The document once more, in the slowest and most literal form, to compare answers with: each DRAW
 * is drawn, each way is gone, each table is written. It shares no code with the class.
 */
final class Oracle {
    private static final List<String> SIGNS = List.of(";", "(", ")", "<", ">", "=", "+", "-", "*", "/", "%");
    private static final List<String> RESERVED = List.of("deed", "place", "smell", "does", "path", "to", "case", "bar",
            "when", "pull", "day", "hears", "start", "age", "draw", "or", "and", "not", "bones", "hour", "here");

    /** What was told. */
    static final class Told {
        final List<String> deeds = new ArrayList<>();
        final List<String> places = new ArrayList<>();
        final List<String> cases = new ArrayList<>();
        final List<Integer> smells = new ArrayList<>();
        final List<Integer> does = new ArrayList<>();
        final List<Integer> bars = new ArrayList<>();
        final List<int[]> paths = new ArrayList<>();
        final List<int[]> whens = new ArrayList<>();
        final List<String> once = new ArrayList<>();
        List<String> pull = null;
        int day = 8;
        int hears = 1;
        int start = 0;
        int age = 0;
        int draw = 0;
        int units = 0;

        boolean path(int one, int other) {
            for (int[] p : paths) {
                if (p[0] == one && p[1] == other || p[1] == one && p[0] == other) {
                    return true;
                }
            }
            return false;
        }

        int table(int deed, int which) {
            for (int[] w : whens) {
                if (w[0] == deed && w[1] == which) {
                    return w[2];
                }
            }
            return 0;
        }
    }

    /** What is in earnest, or on trial. */
    static final class Earnest {
        int dog;
        int hours = 0;
        int hour = 0;
        int age;
        int seed;
        int[] bones;
        int[] scores;
        int[] standing;
        List<Integer> walk = new ArrayList<>();

        Earnest copy() {
            Earnest c = new Earnest();
            c.dog = dog;
            c.hours = hours;
            c.hour = hour;
            c.age = age;
            c.seed = seed;
            c.bones = bones.clone();
            c.scores = scores.clone();
            c.standing = standing.clone();
            c.walk = new ArrayList<>(walk);
            return c;
        }
    }

    static final class Refused extends RuntimeException {
        private static final long serialVersionUID = 1L;
        final int fault;
        final int place;

        Refused(int fault, int place) {
            this.fault = fault;
            this.place = place;
        }
    }

    Told told = new Told();
    Earnest now = begin(told);
    final LinkedList<Earnest> done = new LinkedList<>();
    final LinkedList<Earnest> undone = new LinkedList<>();
    final Earnest[] boxes = new Earnest[3];
    final List<int[]> counts = new ArrayList<>();
    List<Integer> lying = new ArrayList<>();
    int time = 0;
    int fault = 0;
    int faultPlace = -1;

    // ---- telling

    private static final class Token {
        final String text;
        final int place;

        Token(String text, int place) {
            this.text = text;
            this.place = place;
        }
    }

    /** Null is what is no TOKEN, "" the end. */
    private static List<Token> tokens(String text) {
        List<Token> all = new ArrayList<>();
        int at = 0;
        while (at < text.length()) {
            char c = text.charAt(at);
            if (c == ' ' || c == '\n') {
                at++;
                continue;
            }
            int end = at;
            if (c >= 'a' && c <= 'z') {
                while (end < text.length() && text.substring(end, end + 1).matches("[a-z]")) {
                    end++;
                }
                all.add(new Token(end - at > 8 ? null : text.substring(at, end), at));
            } else if (c >= '0' && c <= '9') {
                while (end < text.length() && text.substring(end, end + 1).matches("[0-9]")) {
                    end++;
                }
                boolean letter = end < text.length() && text.substring(end, end + 1).matches("[a-z]");
                all.add(new Token(letter || end - at > 4 ? null : text.substring(at, end), at));
            } else {
                end = at + 1;
                all.add(new Token(SIGNS.contains("" + c) ? "" + c : null, at));
            }
            at = end;
        }
        all.add(new Token("", text.length()));
        return all;
    }

    private static boolean isName(String s) {
        return s != null && s.matches("[a-z]+") && !RESERVED.contains(s);
    }

    private static boolean isNumber(String s) {
        return s != null && s.matches("[0-9]+");
    }

    private static String template(String word) {
        switch (word) {
            case "deed": return "+d ;";
            case "place": return "+p smell 0-9 does d ;";
            case "path": return "p to p ;";
            case "case": return "+c bar 1-15 ;";
            case "when": return "d c V ;";
            case "pull": return "E ;";
            case "day": return "1-24 ;";
            case "hears": return "1-24 ;";
            case "start": return "p ;";
            case "age": return "0-99 ;";
            case "draw": return "0-999 ;";
            default: return null;
        }
    }

    static Told parse(String text) {
        List<Token> tokens = tokens(text);
        Told told = new Told();
        int at = 0;
        while (!"".equals(tokens.get(at).text)) {
            Token first = tokens.get(at);
            need(first.text != null, 1, first);
            String template = template(first.text);
            need(template != null, 2, first);
            need(!full(told, first.text), 2, first);
            at++;
            List<Object> found = new ArrayList<>();
            for (String slot : template.split(" ")) {
                at = fill(told, first.text, slot, tokens, at, found);
            }
            record(told, first.text, found);
        }
        return told;
    }

    private static void need(boolean so, int fault, Token at) {
        if (!so) {
            throw new Refused(at.text == null ? 1 : fault, at.place);
        }
    }

    private static boolean full(Told told, String word) {
        switch (word) {
            case "deed": return told.deeds.size() == 4;
            case "place": return told.places.size() == 8;
            case "path": return told.paths.size() == 16;
            case "case": return told.cases.size() == 4;
            case "when": return told.whens.size() == 16;
            default: return told.once.contains(word);
        }
    }

    private static int fill(Told told, String word, String slot, List<Token> tokens, int at, List<Object> found) {
        Token t = tokens.get(at);
        if (slot.equals("E")) {
            int end = formulaEnd(told, tokens, at);
            List<String> formula = new ArrayList<>();
            for (int i = at; i < end; i++) {
                formula.add(tokens.get(i).text);
            }
            found.add(formula);
            return end;
        }
        if (slot.equals("V")) {
            int behind = "-".equals(t.text) ? at + 1 : at;
            need(isNumber(tokens.get(behind).text), 2, tokens.get(behind));
            int v = Integer.parseInt(tokens.get(behind).text);
            need(v <= 3, 4, t);
            found.add(behind > at ? -v : v);
            return behind + 1;
        }
        if (slot.contains("-")) {
            need(isNumber(t.text), 2, t);
            int n = Integer.parseInt(t.text);
            String[] bounds = slot.split("-");
            need(n >= Integer.parseInt(bounds[0]) && n <= Integer.parseInt(bounds[1]), 4, t);
            found.add(n);
            return at + 1;
        }
        if (slot.startsWith("+")) {
            need(isName(t.text), 2, t);
            need(!sort(told, slot.charAt(1)).contains(t.text), 3, t);
            found.add(t.text);
            return at + 1;
        }
        if (slot.length() == 1 && !slot.equals(";")) {
            need(isName(t.text), 2, t);
            int index = sort(told, slot.charAt(0)).indexOf(t.text);
            need(index >= 0, 5, t);
            if (!found.isEmpty() && word.equals("path")) {
                int one = (Integer) found.get(0);
                need(one != index && !told.path(one, index), 3, t);
            }
            if (!found.isEmpty() && word.equals("when")) {
                int deed = (Integer) found.get(0);
                need(told.whens.stream().noneMatch(w -> w[0] == deed && w[1] == index), 3, t);
            }
            found.add(index);
            return at + 1;
        }
        need(slot.equals(t.text), 2, t);
        return at + 1;
    }

    private static List<String> sort(Told told, char sort) {
        return sort == 'd' ? told.deeds : sort == 'p' ? told.places : told.cases;
    }

    @SuppressWarnings("unchecked")
    private static void record(Told told, String word, List<Object> found) {
        switch (word) {
            case "deed": told.deeds.add((String) found.get(0)); break;
            case "place":
                told.places.add((String) found.get(0));
                told.smells.add((Integer) found.get(1));
                told.does.add((Integer) found.get(2));
                break;
            case "path": told.paths.add(new int[] {(Integer) found.get(0), (Integer) found.get(1)}); break;
            case "case":
                told.cases.add((String) found.get(0));
                told.bars.add((Integer) found.get(1));
                break;
            case "when":
                told.whens.add(new int[] {(Integer) found.get(0), (Integer) found.get(1), (Integer) found.get(2)});
                break;
            case "pull": told.pull = (List<String>) found.get(0); break;
            case "day": told.day = (Integer) found.get(0); break;
            case "hears": told.hears = (Integer) found.get(0); break;
            case "start": told.start = (Integer) found.get(0); break;
            case "age": told.age = (Integer) found.get(0); break;
            default: told.draw = (Integer) found.get(0); break;
        }
        if (!List.of("deed", "place", "path", "case", "when").contains(word)) {
            told.once.add(word);
        }
    }

    /** Goes through a formula with a stack of what is open: '(' and 'n' (a not), 'r' (a relation was). */
    private static int formulaEnd(Told told, List<Token> tokens, int at) {
        StringBuilder open = new StringBuilder();
        boolean operand = true;
        boolean notAllowed = true;
        for (int i = at;; i++) {
            Token t = tokens.get(i);
            String s = t.text;
            int depth = open.toString().replace("r", "").length();
            if (operand) {
                if ("not".equals(s) && notAllowed) {
                    need(depth < 7, 2, t);
                    open.append('n');
                    continue;
                }
                boolean bracket = "(".equals(s);
                need(bracket || isNumber(s) || List.of("smell", "bones", "hour", "age", "here").contains("" + s), 2, t);
                need(told.units < 30 && (!bracket || depth < 7), 2, t);
                told.units++;
                if (bracket) {
                    open.append('(');
                } else {
                    operand = false;
                }
                notAllowed = bracket;
                continue;
            }
            if (s != null && "+-*/%".contains(s) && !s.isEmpty()) {
                operand = true;
                notAllowed = false;
            } else if (s != null && "<>=".contains(s) && !s.isEmpty()) {
                need(open.length() == 0 || open.charAt(open.length() - 1) != 'r', 2, t);
                open.append('r');
                operand = true;
                notAllowed = false;
            } else {
                while (open.length() > 0 && open.charAt(open.length() - 1) != '(') {
                    open.setLength(open.length() - 1);
                }
                if ("and".equals(s) || "or".equals(s)) {
                    operand = true;
                    notAllowed = true;
                } else if (open.length() == 0) {
                    return i;
                } else {
                    need(")".equals(s), 2, t);
                    open.setLength(open.length() - 1);
                }
            }
        }
    }

    /** Cuts a formula in two at its last sign of the weakest kind. */
    static int value(List<String> f, int[] given) {
        for (List<String> kind : List.of(List.of("or"), List.of("and"))) {
            int cut = lastOf(f, kind);
            if (cut >= 0) {
                boolean one = value(f.subList(0, cut), given) != 0;
                boolean other = value(f.subList(cut + 1, f.size()), given) != 0;
                return (kind.contains("or") ? one || other : one && other) ? 1 : 0;
            }
        }
        if (f.get(0).equals("not")) {
            return value(f.subList(1, f.size()), given) == 0 ? 1 : 0;
        }
        for (List<String> kind : List.of(List.of("<", ">", "="), List.of("+", "-"), List.of("*", "/", "%"))) {
            int cut = lastOf(f, kind);
            if (cut >= 0) {
                return joined(f.get(cut), value(f.subList(0, cut), given), value(f.subList(cut + 1, f.size()), given));
            }
        }
        String s = f.get(0);
        if (s.equals("(")) {
            return value(f.subList(1, f.size() - 1), given);
        }
        int quantity = List.of("smell", "bones", "hour", "age", "here").indexOf(s);
        return quantity >= 0 ? given[quantity] : Integer.parseInt(s);
    }

    private static int lastOf(List<String> f, List<String> kind) {
        int depth = 0;
        for (int i = f.size() - 1; i >= 0; i--) {
            depth += f.get(i).equals(")") ? 1 : f.get(i).equals("(") ? -1 : 0;
            if (depth == 0 && kind.contains(f.get(i))) {
                return i;
            }
        }
        return -1;
    }

    private static int joined(String sign, int a, int b) {
        BigInteger x = BigInteger.valueOf(a);
        BigInteger y = BigInteger.valueOf(b);
        switch (sign) {
            case "+": return x.add(y).intValue();
            case "-": return x.subtract(y).intValue();
            case "*": return x.multiply(y).intValue();
            case "/": return b == 0 ? 0 : x.divide(y).intValue();
            case "%": return b == 0 ? 0 : x.remainder(y).intValue();
            case "<": return a < b ? 1 : 0;
            case ">": return a > b ? 1 : 0;
            default: return a == b ? 1 : 0;
        }
    }

    private static Earnest begin(Told told) {
        Earnest e = new Earnest();
        e.dog = told.places.isEmpty() ? -1 : told.start;
        e.age = told.age;
        e.seed = told.draw;
        e.bones = new int[told.places.size()];
        e.scores = new int[told.cases.size()];
        e.standing = new int[told.cases.size()];
        return e;
    }

    int village(String text) {
        try {
            told = parse(text);
        } catch (Refused refused) {
            fault = refused.fault;
            faultPlace = refused.place;
            return -1;
        }
        fault = 0;
        faultPlace = -1;
        now = begin(told);
        done.clear();
        undone.clear();
        counts.clear();
        lying.clear();
        Arrays.fill(boxes, null);
        return told.places.size();
    }

    // ---- the dog

    boolean isPlace(int p) {
        return p >= 0 && p < told.places.size();
    }

    boolean isCase(int c) {
        return c >= 0 && c < told.cases.size();
    }

    boolean isDeed(int d) {
        return d >= 0 && d < told.deeds.size();
    }

    int pull(Earnest e, int place) {
        int[] given = {told.smells.get(place), e.bones[place], e.hour, e.age, e.dog == place ? 1 : 0};
        int value = told.pull == null ? 1 : value(told.pull, given);
        return value < 0 ? 0 : value > 99 ? 99 : value;
    }

    /** PULLS of the PLACES to which it can go, in order; the others are -1. */
    int[] pulls(Earnest e) {
        int[] pulls = new int[told.places.size()];
        for (int p = 0; p < pulls.length; p++) {
            pulls[p] = p == e.dog || told.path(p, e.dog) ? pull(e, p) : -1;
        }
        return pulls;
    }

    int goal(Earnest e, int[] pulls, int draw) {
        int all = 0;
        for (int pull : pulls) {
            all += pull < 0 ? 0 : pull;
        }
        int together = 0;
        for (int p = 0; p < pulls.length; p++) {
            if (pulls[p] >= 0) {
                together += pulls[p];
                if (together > draw * all / 60) {
                    return p;
                }
            }
        }
        return e.dog;
    }

    int[] drawsTo(Earnest e) {
        int[] to = new int[told.places.size()];
        int[] pulls = pulls(e);
        for (int draw = 0; draw < 60; draw++) {
            to[goal(e, pulls, draw)]++;
        }
        return to;
    }

    int heard(Earnest e) {
        return told.cases.isEmpty() ? -1 : e.hours / told.hears % told.cases.size();
    }

    void comeTo(Earnest e, int place) {
        e.dog = place;
        e.walk.add(0, place);
        int which = heard(e);
        if (which >= 0 && e.standing[which] == 0) {
            e.scores[which] += told.table(told.does.get(place), which);
            e.standing[which] = e.scores[which] >= told.bars.get(which) ? 1
                    : e.scores[which] <= -told.bars.get(which) ? 2 : 0;
        }
        e.hours++;
        e.hour++;
        if (e.hour == told.day) {
            e.hour = 0;
            e.age = Math.min(99, e.age + 1);
            Arrays.fill(e.bones, 0);
        }
    }

    // ---- odds, by going each way

    BigInteger[] places(Earnest e, int n) {
        BigInteger[] sum = new BigInteger[told.places.size()];
        Arrays.fill(sum, BigInteger.ZERO);
        if (n == 0) {
            sum[e.dog] = BigInteger.ONE;
            return sum;
        }
        int[] to = drawsTo(e);
        for (int p = 0; p < to.length; p++) {
            if (to[p] > 0) {
                Earnest then = e.copy();
                comeTo(then, p);
                BigInteger[] behind = places(then, n - 1);
                for (int q = 0; q < sum.length; q++) {
                    sum[q] = sum[q].add(behind[q].multiply(BigInteger.valueOf(to[p])));
                }
            }
        }
        return sum;
    }

    BigInteger passed(Earnest e, int which, int n) {
        if (e.standing[which] != 0 || n == 0 || e.dog < 0) {
            return e.standing[which] == 1 ? power(n) : BigInteger.ZERO;
        }
        BigInteger sum = BigInteger.ZERO;
        int[] to = drawsTo(e);
        for (int p = 0; p < to.length; p++) {
            if (to[p] > 0) {
                Earnest then = e.copy();
                comeTo(then, p);
                sum = sum.add(passed(then, which, n - 1).multiply(BigInteger.valueOf(to[p])));
            }
        }
        return sum;
    }

    static BigInteger power(int n) {
        return BigInteger.valueOf(60).pow(n);
    }

    boolean half(BigInteger ways, int n) {
        return ways.add(ways).compareTo(power(n)) > 0;
    }

    static long part(BigInteger upper, BigInteger lower, int part) {
        BigInteger d = upper.gcd(lower);
        return (part == 0 ? upper : lower).divide(d).longValueExact();
    }

    long where(int place, int n, int part) {
        return part(places(now, n)[place], power(n), part);
    }

    long pass(int which, int n, int part) {
        return part(passed(now, which, n), power(n), part);
    }

    int greatest(BigInteger[] all) {
        int best = -1;
        for (int p = 0; p < all.length; p++) {
            if (best < 0 || all[p].compareTo(all[best]) > 0) {
                best = p;
            }
        }
        return best;
    }

    int likely(int n) {
        return told.places.isEmpty() ? -1 : greatest(places(now, n));
    }

    int soon(int which) {
        for (int n = 0; n <= 8; n++) {
            if (half(passed(now, which, n), n)) {
                return n;
            }
        }
        return -1;
    }

    /** All layings of k bones, the most first. */
    List<int[]> layings(int k) {
        List<int[]> all = new ArrayList<>();
        int size = told.places.size();
        int[] laid = new int[size];
        int codes = (int) Math.pow(5, size);
        for (int code = codes - 1; code >= 0; code--) {
            int rest = code;
            int sum = 0;
            boolean fits = true;
            for (int p = size - 1; p >= 0; p--) {
                laid[p] = rest % 5;
                rest /= 5;
                sum += laid[p];
                fits &= now.bones[p] + laid[p] <= 9;
            }
            if (sum == k && fits) {
                all.add(laid.clone());
            }
        }
        return all;
    }

    BigInteger passedBy(int[] laid, int which, int n) {
        Earnest e = now.copy();
        for (int p = 0; p < laid.length; p++) {
            e.bones[p] += laid[p];
        }
        return passed(e, which, n);
    }

    /** The best laying of k; null if there is none. */
    int[] choose(int which, int n, int k) {
        int[] best = null;
        BigInteger most = null;
        for (int[] laid : layings(k)) {
            BigInteger ways = passedBy(laid, which, n);
            if (best == null || ways.compareTo(most) > 0) {
                best = laid;
                most = ways;
            }
        }
        return best;
    }

    long best(int which, int n, int k, int part) {
        lying.clear();
        int[] laid = choose(which, n, k);
        if (laid == null) {
            return -1;
        }
        show(laid);
        return part(passedBy(laid, which, n), power(n), part);
    }

    private void show(int[] laid) {
        lying.clear();
        for (int count : laid) {
            lying.add(count);
        }
    }

    int least(int which, int n) {
        lying.clear();
        for (int k = 0; k <= 4; k++) {
            int[] laid = choose(which, n, k);
            if (laid != null && half(passedBy(laid, which, n), n)) {
                show(laid);
                return k;
            }
        }
        return -1;
    }

    int byTurns(int which, int n, int what) {
        int first = -1;
        int second = -1;
        BigInteger most = null;
        for (int p = 0; p < told.places.size(); p++) {
            BigInteger least = null;
            int answer = -1;
            for (int q = 0; q < told.places.size() && now.bones[p] < 9; q++) {
                int[] laid = new int[told.places.size()];
                laid[p]++;
                laid[q]++;
                if (now.bones[q] + laid[q] <= 9) {
                    BigInteger ways = passedBy(laid, which, n);
                    if (least == null || ways.compareTo(least) < 0) {
                        least = ways;
                        answer = q;
                    }
                }
            }
            if (least != null && (most == null || least.compareTo(most) > 0)) {
                most = least;
                first = p;
                second = answer;
            }
        }
        return what == 0 ? first : second;
    }

    int council(int which, int n) {
        int bits = 0;
        for (int p = 0; p < told.places.size(); p++) {
            Earnest e = now.copy();
            e.dog = p;
            bits |= half(passed(e, which, n), n) ? 1 << p : 0;
        }
        return bits;
    }

    int haunt() {
        if (told.places.isEmpty()) {
            return -1;
        }
        BigInteger[] sum = new BigInteger[told.places.size()];
        Arrays.fill(sum, BigInteger.ZERO);
        for (int n = 1; n <= 8; n++) {
            BigInteger[] at = places(now, n);
            for (int p = 0; p < sum.length; p++) {
                sum[p] = sum[p].add(at[p].multiply(power(8 - n)));
            }
        }
        return greatest(sum);
    }

    int fed(int n) {
        if (n < 1 || n > 8 || now.walk.size() < n) {
            return -1;
        }
        BigInteger[] ways = new BigInteger[told.places.size()];
        for (int p = 0; p < ways.length; p++) {
            ways[p] = BigInteger.ONE;
            for (int i = n - 1; i >= 0; i--) {
                Earnest e = now.copy();
                e.bones[p]++;
                e.dog = i + 1 < now.walk.size() ? now.walk.get(i + 1) : told.start;
                ways[p] = ways[p].multiply(BigInteger.valueOf(drawsTo(e)[now.walk.get(i)]));
            }
        }
        return greatest(ways);
    }

    // ---- acts

    private void act() {
        done.add(now.copy());
        if (done.size() > 40) {
            done.removeFirst();
        }
        undone.clear();
    }

    int hour() {
        if (told.places.isEmpty() || now.hours >= 2000) {
            return -1;
        }
        act();
        now.seed = (now.seed * 137 + 71) % 1000;
        comeTo(now, goal(now, pulls(now), now.seed % 60));
        return now.dog;
    }

    int lay(int place, int by) {
        if (!isPlace(place) || now.bones[place] + by < 0 || now.bones[place] + by > 9) {
            return -1;
        }
        act();
        now.bones[place] += by;
        return now.bones[place];
    }

    boolean undo() {
        if (done.isEmpty()) {
            return false;
        }
        undone.add(now.copy());
        now = done.removeLast();
        return true;
    }

    boolean redo() {
        if (undone.isEmpty()) {
            return false;
        }
        done.add(now.copy());
        now = undone.removeLast();
        return true;
    }

    int walk(int i) {
        return i >= 0 && i < 60 && i < now.walk.size() ? now.walk.get(i) : -1;
    }

    int image(int box) {
        if (box < 0 || box > 2) {
            return -1;
        }
        boxes[box] = now.copy();
        return now.hours;
    }

    int back(int box) {
        if (box < 0 || box > 2 || boxes[box] == null) {
            return -1;
        }
        now = boxes[box].copy();
        done.clear();
        undone.clear();
        return now.hours;
    }

    // ---- counts

    int count(int which, int deed, int times, int other, int otherTimes, int v) {
        if (!isCase(which) || !isDeed(deed) || !isDeed(other) || times < 0 || times > 9 || otherTimes < 0
                || otherTimes > 9 || v < -99 || v > 99 || counts.size() == 30) {
            return -1;
        }
        counts.add(new int[] {which, deed, times, other, otherTimes, v, time, Integer.MIN_VALUE});
        return counts.size() - 1;
    }

    boolean untell(int i) {
        if (i < 0 || i >= counts.size() || counts.get(i)[7] != Integer.MIN_VALUE) {
            return false;
        }
        counts.get(i)[7] = time;
        return true;
    }

    int later(int by) {
        if (by < 0 || by > 1000 || time + by > 100000) {
            return -1;
        }
        time += by;
        return time;
    }

    List<int[]> tables(int which, int k) {
        List<int[]> all = new ArrayList<>();
        all.add(new int[0]);
        for (int d = 0; d < told.deeds.size(); d++) {
            List<int[]> longer = new ArrayList<>();
            for (int[] table : all) {
                for (int v = -3; v <= 3; v++) {
                    int[] more = Arrays.copyOf(table, d + 1);
                    more[d] = v;
                    longer.add(more);
                }
            }
            all = longer;
        }
        for (int[] c : counts) {
            boolean untold = c[7] != Integer.MIN_VALUE && c[7] <= k;
            if (c[0] == which && c[6] <= k && !untold) {
                all.removeIf(t -> c[2] * t[c[1]] + c[4] * t[c[3]] != c[5]);
            }
        }
        return all;
    }

    int sure(int which, int deed, int k) {
        int[] values = tables(which, k).stream().mapToInt(t -> t[deed]).distinct().toArray();
        return values.length == 1 ? values[0] : -1000000;
    }

    int ask(int which, int what, int k) {
        List<int[]> tables = tables(which, k);
        int asked = -1;
        int fewest = -1;
        for (int d = 0; d < told.deeds.size() && !tables.isEmpty(); d++) {
            int most = 0;
            for (int v = -3; v <= 3; v++) {
                int deed = d;
                int value = v;
                most = Math.max(most, (int) tables.stream().filter(t -> t[deed] == value).count());
            }
            if (asked < 0 || most < fewest) {
                asked = d;
                fewest = most;
            }
        }
        return what == 0 ? asked : fewest;
    }

    int about(int what) {
        switch (what) {
            case 0: return told.places.size();
            case 1: return told.deeds.size();
            case 2: return told.cases.size();
            case 3: return told.paths.size();
            case 4: return now.dog;
            case 5: return now.hour;
            case 6: return now.hours;
            case 7: return now.age;
            case 8: return now.seed;
            case 9: return Arrays.stream(now.bones).sum();
            case 10: return done.size();
            case 11: return undone.size();
            case 12: return counts.size();
            case 13: return time;
            case 14: return 0;
            case 15: return told.units;
            case 16: return lying.size();
            case 17: return told.day;
            default: return -1;
        }
    }
}
