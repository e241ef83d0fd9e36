import java.lang.reflect.Method;
import java.lang.reflect.Modifier;
import java.nio.file.Files;
import java.nio.file.Path;
import java.util.ArrayList;
import java.util.List;
import java.util.Set;
import java.util.TreeSet;
import java.util.regex.Matcher;
import java.util.regex.Pattern;

/** The example of README.md compiles, uses every call, and each answer that stands in it is right. */
public final class ReadmeTest {
    private static final Pattern BLOCK = Pattern.compile("(?s)```java\n(.*?)```");
    private static final Pattern ANSWERED =
            Pattern.compile("(x\\.(\\w+)\\(.*\\)); +// (-?\\d+|true|false|throws \\w+)(:.*)?");

    private final Set<String> unused = new TreeSet<>();
    private final StringBuilder body = new StringBuilder();

    public static void main(String[] args) throws Exception {
        new ReadmeTest().go();
    }

    private void go() throws Exception {
        for (Method m : PaperVote.class.getDeclaredMethods()) {
            if (Modifier.isPublic(m.getModifiers())) {
                unused.add(m.getName());
            }
        }
        List<String> blocks = blocksOf(Files.readString(Path.of("README.md")));
        if (blocks.size() != 2) {
            throw new IllegalStateException("README.md has " + blocks.size() + " blocks of Java, not two");
        }
        blocks.get(1).lines().forEach(this::take);
        if (!unused.isEmpty()) {
            throw new IllegalStateException("the example tells no answer of " + unused);
        }
        run(blocks.get(0));
    }

    private static List<String> blocksOf(String text) {
        List<String> blocks = new ArrayList<>();
        Matcher m = BLOCK.matcher(text);
        while (m.find()) {
            blocks.add(m.group(1));
        }
        return blocks;
    }

    /** A line that tells an answer becomes a check of it; others stay as they are. */
    private void take(String line) {
        Matcher m = ANSWERED.matcher(line);
        if (m.matches()) {
            unused.remove(m.group(2));
            body.append("due(\"" + m.group(1) + "\", () -> \"\" + " + m.group(1) + ", \"" + m.group(3) + "\");\n");
        } else if (line.matches("x\\..*")) {
            throw new IllegalStateException("no answer is told in README.md: " + line);
        } else {
            body.append(line).append('\n');
        }
    }

    private void run(String helper) throws Exception {
        Path folder = Files.createTempDirectory("readme");
        Path file = folder.resolve("ReadmeExample.java");
        Files.writeString(file, "public class ReadmeExample {\n"
                + "static int wrong = 0;\n"
                + helper
                + "static void due(String call, java.util.function.Supplier<String> asked, String want) {\n"
                + "    String got;\n"
                + "    try { got = asked.get(); } catch (RuntimeException e) {\n"
                + "        got = \"throws \" + e.getClass().getSimpleName(); }\n"
                + "    if (!got.equals(want)) { wrong++;\n"
                + "        System.out.println(call + \" answered \" + got + \", README.md says \" + want); }\n"
                + "}\n"
                + "public static void main(String[] args) {\n" + body
                + "System.out.println(wrong == 0 ? \"the example is as due\" : wrong + \" answers are not as due\");\n"
                + "if (wrong != 0) { System.exit(1); }\n}\n}\n");
        String home = System.getProperty("java.home") + "/bin/java";
        // java compiles a single file by itself, so nothing stays behind but the text.
        int code = new ProcessBuilder(home, "-cp", System.getProperty("java.class.path"), file.toString())
                .inheritIO().start().waitFor();
        Files.delete(file);
        Files.delete(folder);
        if (code != 0) {
            System.exit(1);
        }
    }
}
