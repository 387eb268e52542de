import java.io.IOException;
import java.lang.reflect.Executable;
import java.lang.reflect.Field;
import java.lang.reflect.Modifier;
import java.nio.file.Files;
import java.nio.file.Path;
import java.util.ArrayList;
import java.util.Arrays;
import java.util.List;
import java.util.Set;
import java.util.TreeSet;
import java.util.regex.Matcher;
import java.util.regex.Pattern;

/** What of ../shared/LANGUAGE.md can be seen in the class's text or through reflection; FaceTest has rule 1. */
public final class LanguageTest {
    private static final Path PROGRAM = Path.of("src/main/java/ThreeCards.java");
    private static final String UNSEEN = "/\\*.*?\\*/|//[^\n]*|\"(?:\\\\.|[^\"\\\\])*\"|'(?:\\\\.|[^'\\\\])+'";
    private static final String FORBIDDEN =
        "\\b(?:throws?|try|catch|finally|synchronized|assert|package|equals|hashCode|toString|record|enum|var)\\b|->|::";
    private static final Set<String> LIBRARY = Set.of("Arrays.fill", "Integer.bitCount", "Math.abs", "Math.max",
        "Math.min", "System.arraycopy");
    private static final int MOST_CLASSES = 12, MOST_FIELDS = 20, MOST_PARAMETERS = 7, MOST_LINES = 60;

    private final Due due = new Due();
    private final String program;

    private LanguageTest(String program) {
        this.program = Pattern.compile(UNSEEN, Pattern.DOTALL).matcher(program).replaceAll("");
    }

    public static void main(String[] args) throws IOException {
        LanguageTest test = new LanguageTest(Files.readString(PROGRAM));
        test.isOneFile();
        test.hasNoForbiddenWord();
        test.callsNoOtherLibrary();
        test.makesAllInConstructors();
        test.hasShortMethods();
        test.keepsToItsSizes();
        test.hasNoStaticState();
        test.due.close();
    }

    private List<String> found(String pattern) {
        List<String> all = new ArrayList<>();
        Matcher matcher = Pattern.compile(pattern, Pattern.MULTILINE).matcher(program);
        while (matcher.find()) {
            all.add(matcher.group());
        }
        return all;
    }

    private static List<Class<?>> classes() {
        List<Class<?>> all = new ArrayList<>(Arrays.asList(ThreeCards.class.getDeclaredClasses()));
        all.add(ThreeCards.class);
        return all;
    }

    private void isOneFile() throws IOException {
        try (var files = Files.list(PROGRAM.getParent())) {
            due.is("files beside the class", files.count(), 1);
        }
    }

    private void hasNoForbiddenWord() {
        due.isTrue("rules 2, 6: " + found(FORBIDDEN), found(FORBIDDEN).isEmpty());
    }

    private void callsNoOtherLibrary() {
        due.isTrue("rule 4: imports", found("^import .*;").equals(List.of("import java.util.Arrays;")));
        Set<String> own = new TreeSet<>();
        for (Class<?> one : classes()) {
            own.add(one.getSimpleName());
        }
        for (String call : found("\\b[A-Z]+[a-z]\\w*\\.[a-z]\\w*\\(")) {
            String name = call.substring(0, call.length() - 1);
            boolean isOwn = own.contains(name.substring(0, name.indexOf('.')));
            due.isTrue("rule 4: " + name, isOwn || LIBRARY.contains(name));
        }
    }

    /** README.md says so, and the task's room holds no object for each call. */
    private void makesAllInConstructors() {
        for (String line : found("^.*\\bnew\\b.*$")) {
            due.isTrue("a field's first value: " + line, line.matches(" +private (final )?\\S+ \\w+ = .*;"));
        }
    }

    private void hasShortMethods() {
        String indent = "";
        int lines = 0;
        for (String line : program.split("\n")) {
            if (line.matches(" +[\\w\\[\\] ]*\\w\\([\\w\\[\\], ]*\\) \\{")) {
                indent = line.substring(0, line.length() - line.stripLeading().length());
                lines = 0;
            }
            lines++;
            if (line.equals(indent + "}")) {
                due.isTrue("rule 11: " + lines + " lines", lines <= MOST_LINES);
            }
        }
    }

    private void keepsToItsSizes() {
        due.isTrue("rule 11: classes", classes().size() <= MOST_CLASSES);
        for (Class<?> one : classes()) {
            long fields = Arrays.stream(one.getDeclaredFields()).filter(f -> !Modifier.isStatic(f.getModifiers())).count();
            due.isTrue("rule 11: fields of " + one, fields <= MOST_FIELDS);
            List<Executable> all = new ArrayList<>(Arrays.asList(one.getDeclaredMethods()));
            all.addAll(Arrays.asList(one.getDeclaredConstructors()));
            for (Executable each : all) {
                due.isTrue("rule 11: parameters of " + each, each.getParameterCount() <= MOST_PARAMETERS);
            }
        }
    }

    private void hasNoStaticState() {
        Set<Class<?>> types = Set.of(int.class, long.class, boolean.class, char.class, String.class, int[].class,
            long[].class, char[].class, byte[].class);
        for (Class<?> one : classes()) {
            for (Field field : one.getDeclaredFields()) {
                if (Modifier.isStatic(field.getModifiers())) {
                    boolean fits = Modifier.isFinal(field.getModifiers()) && types.contains(field.getType());
                    due.isTrue("rule 5: " + field, fits);
                }
            }
        }
    }
}
