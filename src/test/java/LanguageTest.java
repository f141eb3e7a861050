import java.io.IOException;
import java.nio.file.Files;
import java.nio.file.Path;
import java.util.regex.Matcher;
import java.util.regex.Pattern;

/** What can be seen in the source of the rules of LANGUAGE.md; the argument is the source's path. */
public final class LanguageTest {
    private static final String[] NEVER = {
        "\\b(try|catch|finally|synchronized|assert|package|native|volatile|transient)\\b", "->", "::",
        "\\b(System|Thread|Random|Object|Class|Exception|Throwable)\\b", "\\b(Integer|Long)\\.[A-Z]", "Exact\\b",
        "static\\s*\\{", "\\b(equals|hashCode|toString|getClass)\\s*\\(", "@", "\\bprotected\\b",
        "static final [A-Za-z]+\\[\\]", "static (?!final)[a-zA-Z\\[\\]]+ [a-zA-Z]+\\s*[=;]"};

    public static void main(String[] args) throws IOException {
        String source = Files.readString(Path.of(args[0]));
        Due.due("signs beyond 127", Pattern.compile("[^\\x00-\\x7f]").matcher(source).find(), false);
        String code = source
                .replaceAll("(?s)/\\*.*?\\*/", " ")
                .replaceAll("\"(\\\\.|[^\"\\\\])*\"", "\"\"")
                .replaceAll("'(\\\\.|[^'\\\\])'", "''")
                .replaceAll("//[^\n]*", " ");
        for (String never : NEVER) {
            Matcher found = Pattern.compile(never).matcher(code);
            Due.due("in the source: " + never, found.find() ? found.group() : "nothing", "nothing");
        }
        Matcher imported = Pattern.compile("import ([^;]*);").matcher(code);
        while (imported.find()) {
            Due.due("import", imported.group(1), "java.util.NoSuchElementException");
        }
        Due.due("classes", code.split("\\bclass\\b", -1).length - 1 <= 12, true);
        Due.end("LanguageTest");
    }
}
