import java.io.ByteArrayOutputStream;
import java.io.IOException;
import java.io.PrintStream;
import java.nio.file.Files;
import java.nio.file.Path;
import java.util.ArrayList;
import java.util.List;
import java.util.Set;
import java.util.TreeSet;
import java.util.regex.Matcher;
import java.util.regex.Pattern;
import java.util.stream.Stream;

/** What README.md says of the class holds: its example is Example.java and prints what its comments say. */
public final class ReadmeTest {
    private static final Path TESTS = Path.of("src/test/java");
    private static final Pattern BLOCK = Pattern.compile("```java\n(.*?)```", Pattern.DOTALL);
    private static final Pattern PRINTED = Pattern.compile("println\\(.*\\);\\s*// (-?\\d+)");
    private static final Pattern CALL = Pattern.compile("`(\\w+)\\(([^`)]*)\\)`");
    private static final Pattern TEST = Pattern.compile("\\b(\\w+Test)\\b");

    private final Due due = new Due();
    private final String readme;

    private ReadmeTest(String readme) {
        this.readme = readme;
    }

    public static void main(String[] args) throws IOException {
        ReadmeTest test = new ReadmeTest(Files.readString(Path.of("README.md")));
        String example = Files.readString(TESTS.resolve("Example.java"));
        test.showsTheExample(example);
        test.printsWhatItSays(example);
        test.namesEachCall();
        test.namesEachTest();
        test.due.close();
    }

    private void showsTheExample(String example) {
        Matcher block = BLOCK.matcher(readme);
        due.isTrue("README.md has a block of java", block.find());
        due.isTrue("it is Example.java", block.group(1).equals(example));
    }

    private void printsWhatItSays(String example) {
        List<String> said = new ArrayList<>();
        Matcher printed = PRINTED.matcher(example);
        while (printed.find()) {
            said.add(printed.group(1));
        }
        due.is("lines printed", example.split("println").length - 1, said.size());
        List<String> got = linesOfExample();
        due.isTrue("Example prints " + got + ", its comments say " + said, got.equals(said));
    }

    private static List<String> linesOfExample() {
        ByteArrayOutputStream lines = new ByteArrayOutputStream();
        PrintStream before = System.out;
        System.setOut(new PrintStream(lines, true));
        Example.main(new String[0]);
        System.setOut(before);
        return lines.toString().lines().toList();
    }

    /** Each public method stands in README.md with as many numbers as it takes, and none that there is not. */
    private void namesEachCall() {
        Set<String> said = new TreeSet<>();
        Matcher call = CALL.matcher(readme);
        while (call.find()) {
            int numbers = call.group(2).isEmpty() ? 0 : call.group(2).split(",").length;
            said.add(call.group(1) + " " + numbers);
        }
        Set<String> face = new TreeSet<>();
        for (var method : ThreeCards.class.getMethods()) {
            if (method.getDeclaringClass() == ThreeCards.class) {
                face.add(method.getName() + " " + method.getParameterCount());
            }
        }
        due.isTrue("README.md names " + said + ", the class has " + face, said.equals(face));
    }

    private void namesEachTest() throws IOException {
        Set<String> said = new TreeSet<>();
        Matcher test = TEST.matcher(readme);
        while (test.find()) {
            said.add(test.group(1));
        }
        Set<String> there = new TreeSet<>();
        try (Stream<Path> files = Files.list(TESTS)) {
            files.map(file -> file.getFileName().toString()).filter(name -> name.endsWith("Test.java"))
                .forEach(name -> there.add(name.substring(0, name.length() - ".java".length())));
        }
        due.isTrue("README.md names " + said + ", there are " + there, said.equals(there));
    }
}
