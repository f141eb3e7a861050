import java.io.File;
import java.io.IOException;
import java.lang.reflect.InvocationTargetException;
import java.lang.reflect.Method;
import java.nio.file.Files;
import java.nio.file.Path;
import java.util.ArrayList;
import java.util.List;
import java.util.regex.Matcher;
import java.util.regex.Pattern;

/**
 * Whether README.md tells the truth: each call that it shows as a use of the class answers what stands
 * behind it, and the commands that it gives for the tests run as they stand. The third argument is its path.
 */
public final class ReadmeTest {
    private static final String MADE = "Linkloom x = new Linkloom();";
    private static final Pattern CALL = Pattern.compile("x\\.(\\w+)\\((.*)\\); +// ([^:]+)(: .*)?");
    private static final Pattern TEXT = Pattern.compile(": the text is (\\S+).*");

    public static void main(String[] args) throws IOException, InterruptedException, IllegalAccessException {
        Path path = Path.of(args[2]).toAbsolutePath();
        String readme = Files.readString(path);
        List<String> uses = blocks(readme, MADE);
        Due.due("blocks that use the class", uses.size(), 1);
        for (String use : uses) {
            dueUse(use);
        }
        List<String> commands = blocks(readme, "javac ");
        Due.due("blocks of commands", commands.size(), 2);
        for (String block : commands) {
            dueCommands(block, path.getParent().toFile());
        }
        Due.end("ReadmeTest");
    }

    /** The blocks of code that hold these words. */
    private static List<String> blocks(String readme, String words) {
        List<String> blocks = new ArrayList<>();
        Matcher block = Pattern.compile("(?ms)^```\\w+\\n(.*?)^```$").matcher(readme);
        while (block.find()) {
            if (block.group(1).contains(words)) {
                blocks.add(block.group(1));
            }
        }
        return blocks;
    }

    private static void dueUse(String block) throws IllegalAccessException {
        Linkloom x = null;
        int calls = 0;
        for (String line : block.split("\n")) {
            Matcher call = CALL.matcher(line);
            if (line.equals(MADE)) {
                x = new Linkloom();
            } else if (call.matches() && x != null) {
                calls++;
                Due.due("README.md: " + line, answer(x, call.group(1), call.group(2)), call.group(3));
                dueText(x, line, call.group(4));
            } else if (!line.isEmpty()) {
                Due.due("README.md: a line that is no call: " + line, line.startsWith("// "), true);
            }
        }
        Due.due("calls in README.md", calls > 0, true);
    }

    /** Where the words behind the answer tell the text, it is this one. */
    private static void dueText(Linkloom x, String line, String words) {
        Matcher text = TEXT.matcher(words == null ? "" : words);
        if (text.matches()) {
            Due.due("README.md: the text after " + line, Due.text(x), text.group(1));
        }
    }

    private static String answer(Linkloom x, String name, String arguments) throws IllegalAccessException {
        String[] words = arguments.isEmpty() ? new String[0] : arguments.split(", ");
        for (Method method : Linkloom.class.getMethods()) {
            if (method.getName().equals(name) && method.getParameterCount() == words.length) {
                try {
                    return told(method.invoke(x, valuesOf(words, method.getParameterTypes())));
                } catch (InvocationTargetException e) {
                    return "throws " + e.getCause().getClass().getSimpleName();
                }
            }
        }
        return "no such method";
    }

    private static Object[] valuesOf(String[] words, Class<?>[] types) {
        Object[] values = new Object[words.length];
        for (int i = 0; i < words.length; i++) {
            if (types[i] == char.class) {
                values[i] = words[i].matches("'.'") ? words[i].charAt(1) : (Object) words[i];
            } else {
                values[i] = types[i] == boolean.class ? (Object) words[i].equals("true") : Integer.valueOf(words[i]);
            }
        }
        return values;
    }

    private static String told(Object answer) {
        return answer instanceof Character ? "'" + answer + "'" : String.valueOf(answer);
    }

    /** Runs the block line by line in the directory of README.md; it ends at the first line that fails. */
    private static void dueCommands(String block, File directory) throws IOException, InterruptedException {
        Path made = Files.createTempDirectory("readme");
        Path said = Files.createTempFile(made, "said", ".txt");
        ProcessBuilder shell = new ProcessBuilder("bash", "-e", "-c", block);
        shell.environment().put("TMPDIR", made.toString());
        shell.directory(directory).redirectErrorStream(true).redirectOutput(said.toFile());
        int code = shell.start().waitFor();
        if (code != 0) {
            System.out.print(Files.readString(said));
        }
        Due.due("exit code of the commands\n" + block, code, 0);
        delete(made.toFile());
    }

    private static void delete(File made) {
        File[] inside = made.listFiles();
        if (inside != null) {
            for (File file : inside) {
                delete(file);
            }
        }
        made.delete();
    }
}
