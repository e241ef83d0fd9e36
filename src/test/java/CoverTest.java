import java.lang.reflect.Method;
import java.nio.file.Files;
import java.nio.file.Path;
import java.util.ArrayList;
import java.util.List;
import java.util.stream.Stream;

/** Each promise has tests of its sentences, and each of these tells words that stand in the document. */
public final class CoverTest {
    private static final int PROMISES = 54;
    private static int wrong = 0;

    public static void main(String[] args) throws Exception {
        String document = plain(Files.readString(Path.of("../shared/DOC.md")));
        int[] tests = new int[PROMISES + 1];
        for (String name : classNames()) {
            for (Method test : Sentences.testsOf(Class.forName(name))) {
                String says = plain(test.getAnnotation(Says.class).value());
                due(document.contains(says), test.getName() + " tells what the document doesn't: " + says);
                int promise = Sentences.promiseOf(test);
                boolean named = promise >= 1 && promise <= PROMISES;
                due(named, test.getName() + " isn't named after a promise");
                tests[named ? promise : 0]++;
            }
        }
        int sum = 0;
        for (int promise = 1; promise <= PROMISES; promise++) {
            due(tests[promise] > 0, "promise " + promise + " has no test of a sentence");
            sum += tests[promise];
        }
        System.out.println(sum + " tests of sentences of " + PROMISES + " promises, " + wrong + " faults");
        if (wrong != 0) {
            System.exit(1);
        }
    }

    private static List<String> classNames() throws Exception {
        List<String> names = new ArrayList<>();
        try (Stream<Path> files = Files.list(Path.of("src/test/java"))) {
            files.map(f -> f.getFileName().toString()).filter(f -> f.endsWith("SentencesTest.java")).sorted()
                    .forEach(f -> names.add(f.substring(0, f.length() - 5)));
        }
        due(names.size() >= 10, "only " + names.size() + " classes of tests of sentences");
        return names;
    }

    /** Lines are folded as it comes in the document. */
    private static String plain(String text) {
        return text.replaceAll("\\s+", " ");
    }

    private static void due(boolean right, String text) {
        if (!right) {
            wrong++;
            System.out.println(text);
        }
    }
}
