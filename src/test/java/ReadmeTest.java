import java.io.IOException;
import java.lang.reflect.Method;
import java.nio.charset.StandardCharsets;
import java.nio.file.Files;
import java.nio.file.Path;
import java.util.regex.Matcher;
import java.util.regex.Pattern;

/** README.md's own village and calls: each answer told there is the one that the class gives. */
public final class ReadmeTest {
    private static final Pattern TEXT = Pattern.compile("```text\n(.*?)```", Pattern.DOTALL);
    private static final Pattern ROW = Pattern.compile("^\\| `(\\w+)\\(([-0-9, ]*)\\)` \\| (-?\\w+) \\|", Pattern.MULTILINE);

    public static void main(String[] args) throws IOException, ReflectiveOperationException {
        String readme = Files.readString(Path.of("README.md"), StandardCharsets.ISO_8859_1);
        asFed();
        asTold(readme);
        testsAreNamed(readme);
        Check.end("ReadmeTest");
    }

    /** The calls of the first example. */
    private static void asFed() {
        DogDecrees x = new DogDecrees();
        Check.due("feed", x.feed(0x64656564, 0x20613b70, 0x6c616365, 0x20702073, 0x6d656c6c), 20);
        Check.due("feed", x.feed(0x20312064, 0x6f657320, 0x613b0000, 0, 0), 40);
        Check.due("end", x.end(30), 30);
        Check.due("village", x.village(), 1);
    }

    private static void asTold(String readme) throws ReflectiveOperationException {
        Matcher text = TEXT.matcher(readme);
        Check.due("a village stands in README.md", text.find(), true);
        DogDecrees x = Check.village(text.group(1));
        Matcher row = ROW.matcher(readme);
        int rows = 0;
        for (; row.find(); rows++) {
            String[] given = row.group(2).isEmpty() ? new String[0] : row.group(2).split(", *");
            Check.due(row.group(1) + "(" + row.group(2) + ")", answer(x, row.group(1), given), told(row.group(3)));
        }
        Check.due("calls stand in README.md", rows >= 35, true);
    }

    private static long answer(DogDecrees x, String name, String[] given) throws ReflectiveOperationException {
        Class<?>[] types = new Class<?>[given.length];
        Object[] numbers = new Object[given.length];
        for (int i = 0; i < given.length; i++) {
            types[i] = int.class;
            numbers[i] = Integer.valueOf(given[i]);
        }
        Method method = DogDecrees.class.getMethod(name, types);
        Object answer = method.invoke(x, numbers);
        return answer instanceof Boolean ? ((Boolean) answer ? 1 : 0) : ((Number) answer).longValue();
    }

    private static long told(String answer) {
        switch (answer) {
            case "true": return 1;
            case "false": return 0;
            case "NONE": return DogDecrees.NONE;
            case "GAP": return DogDecrees.GAP;
            default: return Long.parseLong(answer);
        }
    }

    private static void testsAreNamed(String readme) throws IOException {
        try (var files = Files.list(Path.of("src/test/java"))) {
            files.map(file -> file.getFileName().toString().replace(".java", ""))
                    .filter(name -> name.endsWith("Test"))
                    .forEach(name -> Check.due("README.md tells of " + name, readme.contains("`" + name + "`"), true));
        }
    }
}
