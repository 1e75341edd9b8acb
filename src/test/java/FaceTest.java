import java.io.IOException;
import java.lang.reflect.Constructor;
import java.lang.reflect.Field;
import java.lang.reflect.Method;
import java.lang.reflect.Modifier;
import java.nio.charset.StandardCharsets;
import java.nio.file.Files;
import java.nio.file.Path;
import java.util.ArrayList;
import java.util.HashSet;
import java.util.List;
import java.util.Set;
import java.util.TreeSet;
import java.util.regex.Matcher;
import java.util.regex.Pattern;

/** The document's face and those rules of LANGUAGE.md that can be seen from outside. */
public final class FaceTest {
    private static final String FACE = "int feed(int,int,int,int,int) int end(int) int village() int fault(int) "
            + "int place(int,int) int hearing(int,int) int table(int,int) int draws(int) int hour() int lay(int) "
            + "int take(int) boolean undo() boolean redo() long where(int,int,int) long pass(int,int,int) int likely(int) "
            + "int soon(int) long best(int,int,int,int) int least(int,int) int byTurns(int,int,int) int council(int,int) "
            + "int haunt() int walk(int) int fed(int) int lies(int) int count(int,int,int,int,int,int) "
            + "boolean untell(int) int later(int) int meant(int,int) int sure(int,int,int) int ask(int,int,int) "
            + "int image(int) int back(int) int about(int)";

    public static void main(String[] args) throws IOException {
        face();
        members();
        nested();
        source();
        Check.end("FaceTest");
    }

    private static void face() {
        Check.due("NONE", DogDecrees.NONE, -1);
        Check.due("GAP", DogDecrees.GAP, -1000000);
        Set<String> due = new TreeSet<>(List.of(FACE.split("(?<=\\)) ")));
        Set<String> found = new TreeSet<>();
        Set<String> names = new HashSet<>();
        for (Method m : DogDecrees.class.getDeclaredMethods()) {
            if (!Modifier.isPublic(m.getModifiers())) {
                continue;
            }
            List<String> types = new ArrayList<>();
            for (Class<?> type : m.getParameterTypes()) {
                types.add(type.getName());
            }
            found.add(m.getReturnType().getName() + " " + m.getName() + "(" + String.join(",", types) + ")");
            names.add(m.getName());
        }
        Check.due("the face is " + found, found.equals(due), true);
        for (Class<?> c : all()) {
            for (Method m : c.getDeclaredMethods()) {
                boolean hidden = !Modifier.isPublic(m.getModifiers());
                Check.due("a method of the face's name: " + m, hidden && names.contains(m.getName()), false);
                Check.due("more than seven parameters: " + m, m.getParameterCount() > 7, false);
            }
        }
    }

    private static void members() {
        Check.due("public final", DogDecrees.class.getModifiers() == (Modifier.PUBLIC | Modifier.FINAL), true);
        for (Constructor<?> c : DogDecrees.class.getDeclaredConstructors()) {
            Check.due("a constructor: " + c, Modifier.isPublic(c.getModifiers()) && c.getParameterCount() == 0, true);
        }
        for (Method m : DogDecrees.class.getDeclaredMethods()) {
            Check.due("public or private: " + m, Modifier.isPublic(m.getModifiers()) || Modifier.isPrivate(m.getModifiers()), true);
        }
        for (Field f : DogDecrees.class.getDeclaredFields()) {
            boolean constant = f.getName().equals("NONE") || f.getName().equals("GAP");
            Check.due("a field: " + f, constant ? Modifier.isPublic(f.getModifiers()) : Modifier.isPrivate(f.getModifiers()), true);
        }
    }

    private static List<Class<?>> all() {
        List<Class<?>> all = new ArrayList<>(List.of(DogDecrees.class.getDeclaredClasses()));
        all.add(DogDecrees.class);
        return all;
    }

    private static void nested() {
        Check.due("twelve classes at most", all().size() <= 12, true);
        for (Class<?> c : all()) {
            int fields = 0;
            for (Field f : c.getDeclaredFields()) {
                boolean fixed = Modifier.isStatic(f.getModifiers());
                Check.due("a static field is final: " + f, fixed && !Modifier.isFinal(f.getModifiers()), false);
                fields += fixed ? 0 : 1;
            }
            Check.due("twenty fields at most: " + c, fields <= 20, true);
            if (c != DogDecrees.class) {
                Check.due("static: " + c, Modifier.isStatic(c.getModifiers()), true);
                Check.due("not public: " + c, Modifier.isPublic(c.getModifiers()) || Modifier.isProtected(c.getModifiers()), false);
            }
        }
    }

    private static void source() throws IOException {
        String text = Files.readString(Path.of("src/main/java/DogDecrees.java"), StandardCharsets.ISO_8859_1);
        Check.due("signs of 1 to 127 alone", text.chars().allMatch(c -> c > 0 && c < 128), true);
        String code = text.replaceAll("(?s)/\\*.*?\\*/", "").replaceAll("//[^\n]*", "");
        String[] refused = {"throw", "throws", "try", "catch", "finally", "synchronized", "assert", "package", "native",
            "yield", "hashCode", "toString", "Thread", "Object", "System\\.(?!arraycopy)", ".*Exact", "->", "::", "import (?!java.util.Arrays;)"};
        for (String word : refused) {
            String wanted = word.matches("[A-Za-z.*]+") ? "\\b" + word + "\\b" : word;
            Check.due("what LANGUAGE.md refuses: " + word, Pattern.compile(wanted).matcher(code).find(), false);
        }
        String joined = code.replaceAll("'[^'\n]*'", "0");
        Check.due("texts joined by +", Pattern.compile("\"\\s*\\+|\\+\\s*\"").matcher(joined).find(), false);
        lengths(text);
    }

    private static void lengths(String text) {
        int start = 0;
        Matcher head = Pattern.compile("^ {4}(?: {4})?(?!\\S.*\\bclass\\b)\\S.*\\) \\{$|^ {4}(?: {4})?}$").matcher("");
        String[] lines = text.split("\n");
        for (int i = 0; i < lines.length; i++) {
            if (head.reset(lines[i]).find()) {
                if (!lines[i].trim().equals("}")) {
                    start = i;
                } else {
                    Check.due("sixty lines at most, at line " + (start + 1), i - start <= 60, true);
                    start = i;
                }
            }
        }
    }
}
