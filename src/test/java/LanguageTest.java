import java.nio.file.Files;
import java.nio.file.Path;
import java.util.List;
import java.util.regex.Matcher;
import java.util.regex.Pattern;

/** Rules of ../shared/LANGUAGE.md that can be told from the class's text: what must not stand in it, how long methods are. */
public final class LanguageTest {
    private static final List<String> BANNED = List.of("finally", "^(?!\\s*(case|default)\\b).*->", "::", "\\bassert\\b", "synchronized", "getMessage", "\\btry\\s*\\(", "\\bnative\\b",
            "System\\.(?!arraycopy)", "Math\\.random", "Exact\\b", "\\bhashCode\\b", "\\bRandom\\b", "\\bThread\\b", "\\bprotected\\b", "^package", "static\\s*\\{",
            "extends (Runtime)?Exception", "while\\s*\\(true\\)", "for\\s*\\(;;", "catch \\((Exception|Throwable|RuntimeException|Null\\w*|Array\\w*|ClassCast\\w*|Negative\\w*)");

    public static void main(String[] args) throws Exception {
        String source = Files.readString(Path.of("src/main/java/TurningPosts.java"));
        String code = source.replaceAll("(?s)/\\*.*?\\*/", "").replaceAll("//[^\n]*", "");
        for (String banned : BANNED) Checks.due("has " + banned, Pattern.compile(banned, Pattern.MULTILINE).matcher(code).find(), false);
        for (char sign : source.toCharArray()) {
            if (sign > 126) Checks.due("sign " + (int) sign, true, false);
        }
        Matcher imports = Pattern.compile("^import .*", Pattern.MULTILINE).matcher(code);
        while (imports.find()) Checks.due(imports.group(), imports.group().matches("import java\\.util\\.(NoSuchElementException|ArrayList|List|Arrays|Iterator);"), true);
        Matcher statics = Pattern.compile("static (?!final)[^(\n;]*[=;]").matcher(code);
        Checks.due("static state", statics.find(), false);
        Matcher classes = Pattern.compile("\\bclass \\w+").matcher(code);
        int many = 0;
        while (classes.find()) many++;
        Checks.due("at most 12 classes", many <= 12, true);
        lengths(source.split("\n"));
        Checks.end("LanguageTest");
    }

    /** A method of the class is indented by 4, one of a class inside by 8. */
    private static void lengths(String[] lines) {
        for (int i = 0; i < lines.length; i++) {
            Matcher begins = Pattern.compile("^( {4}| {8})(?!return|if|for|while|switch)[a-z][^=;]*\\([^=;]*\\{$").matcher(lines[i]);
            if (!begins.find()) continue;
            int length = 1;
            while (i + length < lines.length - 1 && !lines[i + length].equals(begins.group(1) + "}")) length++;
            Checks.due("length of " + lines[i].trim() + " is " + (length + 1), length + 1 <= 60, true);
            Checks.due("arguments of " + lines[i].trim(), lines[i].chars().filter(sign -> sign == ',').count() <= 6, true);
        }
    }
}
