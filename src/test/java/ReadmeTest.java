import java.lang.reflect.Method;
import java.lang.reflect.Modifier;
import java.nio.file.Files;
import java.nio.file.Path;
import java.util.Arrays;
import java.util.Set;
import java.util.TreeSet;
import java.util.regex.Matcher;
import java.util.regex.Pattern;
import java.util.stream.Collectors;
import java.util.stream.Stream;

/** What README.md says is so: the answers of its example, the calls of the face, the tests there are. */
public final class ReadmeTest {
    private static final Pattern TEXT = Pattern.compile("^put\\(x, \"([^\"]*)\"\\);");
    private static final Pattern CALL = Pattern.compile("^x\\.(\\w+)\\(([-0-9, ]*)\\); +// (-?\\d+):");
    private static final Pattern IN_TABLE = Pattern.compile("`(\\w+)`");
    private static final Pattern TEST = Pattern.compile("\\b(\\w+Test)\\b");

    public static void main(String[] args) throws Exception {
        String page = Files.readString(Path.of("README.md"));
        example(page);
        Set<String> face = new TreeSet<>();
        for (Method method : TurningPosts.class.getDeclaredMethods()) {
            if (Modifier.isPublic(method.getModifiers())) face.add(method.getName());
        }
        String table = page.substring(page.indexOf("| what for |"), page.indexOf("## How it is built"));
        Checks.due("calls in the table", found(IN_TABLE, table).toString(), face.toString());
        Checks.due("tests named", found(TEST, page).toString(), tests().toString());
        Checks.end("ReadmeTest");
    }

    /** Each line that puts a text in or asks a call is done, and answers as is said behind it. */
    private static void example(String page) throws Exception {
        int begins = page.indexOf("TurningPosts x = new TurningPosts();\n");
        TurningPosts x = new TurningPosts();
        int calls = 0;
        for (String line : page.substring(begins, page.indexOf("```", begins)).split("\n")) {
            Matcher text = TEXT.matcher(line);
            Matcher call = CALL.matcher(line);
            if (text.find()) {
                Checks.text(x, text.group(1));
            } else if (call.find()) {
                Checks.due(line, answer(x, call.group(1), call.group(2)), Long.parseLong(call.group(3)));
                calls++;
            } else {
                Checks.due("a line of the example", line, "TurningPosts x = new TurningPosts();");
            }
        }
        Checks.due("calls with an answer in the example", calls > 9, true);
    }

    private static long answer(TurningPosts x, String name, String told) throws Exception {
        Object[] arguments = told.isEmpty() ? new Object[0] : Arrays.stream(told.split(", ")).map(Integer::valueOf).toArray();
        Class<?>[] types = new Class<?>[arguments.length];
        Arrays.fill(types, int.class);
        return ((Number) TurningPosts.class.getMethod(name, types).invoke(x, arguments)).longValue();
    }

    private static Set<String> found(Pattern pattern, String in) {
        Set<String> names = new TreeSet<>();
        Matcher matcher = pattern.matcher(in);
        while (matcher.find()) names.add(matcher.group(1));
        return names;
    }

    private static Set<String> tests() throws Exception {
        try (Stream<Path> files = Files.list(Path.of("src/test/java"))) {
            return files.map(file -> file.getFileName().toString().replace(".java", "")).filter(name -> name.endsWith("Test")).collect(Collectors.toCollection(TreeSet::new));
        }
    }
}
