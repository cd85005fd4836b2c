import java.io.IOException;
import java.lang.reflect.Method;
import java.lang.reflect.Modifier;
import java.net.URL;
import java.net.URLClassLoader;
import java.nio.file.Files;
import java.nio.file.Path;
import java.util.ArrayList;
import java.util.List;
import java.util.TreeMap;
import java.util.TreeSet;
import java.util.regex.Matcher;
import java.util.regex.Pattern;
import java.util.stream.Stream;
import javax.tools.JavaCompiler;
import javax.tools.ToolProvider;

/** What README.md says of the class and of its tests is so: the example, the calls, the classes, the tests. */
public final class ReadmeTest {
    private static final Path README = Path.of("README.md");
    private static final Path DOCUMENT = Path.of("../shared/DOC.md");
    private static final Path TESTS = Path.of("src/test/java");

    /** A line of the example that tells an answer: the statement and the number behind it. */
    private static final Pattern ANSWERED = Pattern.compile("(.*;)\\s*// (-?\\d+): .*");
    private static final Pattern DECLARED = Pattern.compile("int (\\w+) = .*;");

    public static void main(String[] args) throws IOException, ReflectiveOperationException {
        String readme = Files.readString(README);
        example(readme);
        calls(readme);
        classes(readme);
        tests(readme);
        Check.end();
    }

    /** All that a pattern's first group finds. */
    private static TreeSet<String> found(String pattern, String text) {
        TreeSet<String> found = new TreeSet<>();
        Matcher matcher = Pattern.compile(pattern).matcher(text);
        while (matcher.find()) {
            found.add(matcher.group(1));
        }
        return found;
    }

    private static void alike(String what, Object told, Object had) {
        if (!told.equals(had)) {
            Check.fail("README.md tells of " + what + " " + told + ", there is " + had);
        }
    }

    private static void example(String readme) throws IOException, ReflectiveOperationException {
        Matcher block = Pattern.compile("(?s)```java\n(.*?)```").matcher(readme);
        if (!block.find()) {
            Check.fail("README.md has no example");
            return;
        }
        List<String> statements = new ArrayList<>();
        List<Long> due = new ArrayList<>();
        StringBuilder asking = new StringBuilder();
        for (String line : block.group(1).split("\n")) {
            Matcher answered = ANSWERED.matcher(line);
            if (!answered.matches()) {
                asking.append(line).append('\n');
                continue;
            }
            String statement = answered.group(1);
            statements.add(statement);
            due.add(Long.parseLong(answered.group(2)));
            Matcher declared = DECLARED.matcher(statement);
            if (declared.matches()) {
                asking.append(statement).append(" got.add((long) ").append(declared.group(1)).append(");\n");
            } else {
                asking.append("got.add((long) ").append(statement.replaceAll(";$", "")).append(");\n");
            }
        }
        Check.due("README.md's example tells answers", due.size() > 5 ? 1 : 0, 1);
        List<?> got = answersOf(block.group(1), asking.toString());
        Check.due("answers of README.md's example", got.size(), due.size());
        for (int i = 0; i < got.size() && i < due.size(); i++) {
            Check.due("README.md: " + statements.get(i), (Long) got.get(i), due.get(i));
        }
    }

    /** Compiles the example as it stands and once more asking for its answers, which it then gives. */
    private static List<?> answersOf(String asItStands, String asking) throws IOException, ReflectiveOperationException {
        JavaCompiler compiler = ToolProvider.getSystemJavaCompiler();
        if (compiler == null) {
            Check.fail("this java has no compiler");
            return List.of();
        }
        Path folder = Files.createTempDirectory("readme");
        Path source = folder.resolve("Example.java");
        Path compiled = folder.resolve("Example.class");
        try {
            Files.writeString(source, "public final class Example {\nstatic void asItStands() {\n" + asItStands
                + "}\npublic static java.util.List<Long> answers() {\n"
                + "java.util.List<Long> got = new java.util.ArrayList<>();\n" + asking + "return got;\n}\n}\n");
            int ended = compiler.run(null, null, null, "-proc:none", "-cp", System.getProperty("java.class.path"), "-d",
                folder.toString(), source.toString());
            if (ended != 0) {
                Check.fail("README.md's example does not compile");
                return List.of();
            }
            try (URLClassLoader loader = new URLClassLoader(new URL[] {folder.toUri().toURL()})) {
                return (List<?>) loader.loadClass("Example").getMethod("answers").invoke(null);
            }
        } finally {
            Files.deleteIfExists(compiled);
            Files.deleteIfExists(source);
            Files.deleteIfExists(folder);
        }
    }

    /** Each call of the face stands in the list once, in the row that has its promise's number. */
    private static void calls(String readme) throws IOException {
        TreeMap<Integer, String> promised = new TreeMap<>();
        Matcher heads = Pattern.compile("(?m)^## Promise (\\d+): (\\w+)$").matcher(Files.readString(DOCUMENT));
        while (heads.find()) {
            promised.put(Integer.parseInt(heads.group(1)), heads.group(2));
        }
        TreeSet<String> face = new TreeSet<>();
        for (Method method : PetalPictures.class.getDeclaredMethods()) {
            if (Modifier.isPublic(method.getModifiers())) {
                face.add(method.getName());
            }
        }
        alike("calls", new TreeSet<>(promised.values()), face);
        String list = readme.substring(readme.indexOf("Which call is for what"), readme.indexOf("No call throws"));
        String[] rows = list.split("\n- ");
        for (int i = 1; i < rows.length; i++) {
            TreeSet<String> due = new TreeSet<>();
            Matcher numbers = Pattern.compile("(\\d+)(?: to (\\d+))?").matcher(rows[i]);
            while (numbers.find()) {
                int first = Integer.parseInt(numbers.group(1));
                int last = numbers.group(2) == null ? first : Integer.parseInt(numbers.group(2));
                for (int promise = first; promise <= last; promise++) {
                    due.add(promised.get(promise));
                    face.remove(promised.get(promise));
                }
            }
            alike("row " + i + " of the calls", found("`(\\w+)`", rows[i]), due);
        }
        alike("calls that the list leaves out", new TreeSet<String>(), face);
    }

    private static void classes(String readme) {
        TreeSet<String> had = new TreeSet<>();
        for (Class<?> inside : PetalPictures.class.getDeclaredClasses()) {
            had.add(inside.getSimpleName());
        }
        String list = readme.substring(readme.indexOf("## How it is built"), readme.indexOf("## How to run"));
        alike("classes", found("(?m)^- `(\\w+)`", list), had);
    }

    private static void tests(String readme) throws IOException {
        TreeSet<String> had = new TreeSet<>();
        try (Stream<Path> files = Files.list(TESTS)) {
            files.forEach(file -> had.add(file.getFileName().toString().replaceAll("\\.java$", "")));
        }
        String list = readme.substring(readme.indexOf("The tests of the project:"));
        alike("tests and what they share", found("`([A-Z]\\w+)`", list), had);
        Check.due(".ci/run is executable", Files.isExecutable(Path.of(".ci/run")) ? 1 : 0, 1);
    }
}
