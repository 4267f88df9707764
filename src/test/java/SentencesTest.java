import java.nio.file.Files;
import java.nio.file.Path;
import java.util.List;
import java.util.Map;
import java.util.TreeMap;
import java.util.regex.Matcher;
import java.util.regex.Pattern;
import java.util.stream.Collectors;
import java.util.stream.Stream;

/** Each word of the document's Terms and of its promises stands in a sentence that a test of edges is of, and what these tests quote stands there. */
public final class SentencesTest {
    private static final Path DOCUMENT = Path.of("../shared/DOC.md");
    private static final Path TESTS = Path.of("src/test/java");
    private static final Pattern QUOTE = Pattern.compile("\\bof\\((\\d+), \"((?:[^\"\\\\]|\\\\.)*)\"\\)");
    private static final Pattern PROMISE = Pattern.compile("## Promise (\\d+): .*\n\n`[^`]*`: (.*)\n");
    /** What introduces a group of calls, and of these only what says more than its name. */
    private static final Pattern GROUP = Pattern.compile("Ahead of the calls .* the interface says: ---- (.*)\n");

    public static void main(String[] args) throws Exception {
        if (!Files.exists(DOCUMENT)) {
            System.out.println("SentencesTest: no document here, nothing asked");
            return;
        }
        String document = Files.readString(DOCUMENT);
        Map<Integer, String> texts = new TreeMap<>();
        texts.put(0, terms(document));
        Matcher promises = PROMISE.matcher(document);
        while (promises.find()) texts.put(Integer.parseInt(promises.group(1)), promises.group(2));
        Checks.due("promises", texts.size(), 55);
        Map<Integer, boolean[]> quoted = new TreeMap<>();
        for (int promise : texts.keySet()) quoted.put(promise, new boolean[texts.get(promise).length()]);
        for (Path file : edges()) {
            Matcher quotes = QUOTE.matcher(Files.readString(file));
            while (quotes.find()) mark(Integer.parseInt(quotes.group(1)), quotes.group(2), texts, quoted);
        }
        for (int promise : texts.keySet()) Checks.due("promise " + promise + ", without a test", rest(texts.get(promise), quoted.get(promise)), "");
        Checks.end("SentencesTest");
    }

    private static List<Path> edges() throws Exception {
        try (Stream<Path> files = Files.list(TESTS)) {
            return files.filter(file -> file.getFileName().toString().endsWith("EdgesTest.java")).sorted().collect(Collectors.toList());
        }
    }

    /** The section, on one line, without its numbers and marks; of groups of calls only what stands in ( ). */
    private static String terms(String document) {
        String section = document.substring(document.indexOf("## Terms"), document.indexOf("## Promise 1:"));
        Matcher groups = GROUP.matcher(section);
        String without = groups.replaceAll(group -> Matcher.quoteReplacement(group.group(1).contains("(") ? group.group(1) : "")).substring("## Terms".length());
        return without.replace("```text", "").replace("```", "").replaceAll("(?m)^\\d\\. ", "").replaceAll("\\s+", " ").trim();
    }

    private static void mark(int promise, String quote, Map<Integer, String> texts, Map<Integer, boolean[]> quoted) {
        String text = texts.getOrDefault(promise, "");
        int at = text.indexOf(quote);
        Checks.due("promise " + promise + " says \"" + quote + "\"", at >= 0, true);
        for (; at >= 0; at = text.indexOf(quote, at + 1)) {
            for (int i = at; i < at + quote.length(); i++) quoted.get(promise)[i] = true;
        }
    }

    /** What no quote covers, if there are words in it. */
    private static String rest(String text, boolean[] quoted) {
        StringBuilder rest = new StringBuilder();
        for (int i = 0; i < text.length(); i++) rest.append(quoted[i] ? '|' : text.charAt(i));
        return rest.toString().replaceAll("\\|+", "|").replaceAll("[^A-Za-z0-9]*\\|[^A-Za-z0-9]*", "|").replaceAll("^\\|*$", "");
    }
}
