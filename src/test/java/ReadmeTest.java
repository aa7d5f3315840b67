import java.io.IOException;
import java.lang.reflect.Method;
import java.lang.reflect.Modifier;
import java.net.URL;
import java.net.URLClassLoader;
import java.nio.file.Files;
import java.nio.file.Path;
import java.util.ArrayList;
import java.util.Comparator;
import java.util.List;
import java.util.function.BiConsumer;
import java.util.regex.Matcher;
import java.util.regex.Pattern;
import java.util.stream.Stream;
import javax.tools.JavaCompiler;
import javax.tools.ToolProvider;

/**
 * README.md shows calls and their answers: its blocks of Java are compiled and run, its tables of texts are read,
 * and each answer must be the one that stands there.
 */
public final class ReadmeTest {
    /** A whole statement, with what is said behind it. */
    private static final Pattern STATEMENT = Pattern.compile("(?s)(.*;)\\s*?(?:// (.*))?");
    private static final Pattern ANSWER = Pattern.compile("(true|false|-?\\d+)(: .+)?");
    private static final Pattern TEXT = Pattern.compile("`(CHIP[^`]*)`");
    private static final Pattern NUMBER = Pattern.compile("-?\\d+");
    private static final String NEW_DESK = "ChipDesk desk = new ChipDesk();";

    private final List<String> calls = new ArrayList<>();
    private final List<String> wants = new ArrayList<>();
    private final StringBuilder members = new StringBuilder();
    private final StringBuilder main = new StringBuilder();
    private int heard = 0;

    public static void main(String[] args) throws IOException, ReflectiveOperationException {
        List<String> lines = Files.readAllLines(Path.of("README.md"));
        ReadmeTest test = new ReadmeTest();
        test.examples(lines);
        test.faults(lines);
        test.everyCallIsShown(lines);
        Check.end();
    }

    private void examples(List<String> lines) throws IOException, ReflectiveOperationException {
        int start = -1;
        for (int i = 0; i < lines.size(); i++) {
            if (lines.get(i).equals("```java")) {
                start = i + 1;
            } else if (start >= 0 && lines.get(i).equals("```")) {
                addBlock(lines.subList(start, i));
                start = -1;
            }
        }
        Check.due("a block of README.md has no end", start, -1);
        Path dir = Files.createTempDirectory("readme");
        try {
            run(dir);
        } finally {
            delete(dir);
        }
        Check.due("answers of README.md's examples", heard, wants.size());
        Check.due("README.md has examples", heard > 0, true);
    }

    /** A block is either a method that the others use, or statements, each with its answer. */
    private void addBlock(List<String> block) {
        if (block.get(0).startsWith("static ")) {
            members.append(String.join("\n", block)).append('\n');
            return;
        }
        main.append("{\n");
        StringBuilder statement = new StringBuilder();
        for (String line : block) {
            statement.append(statement.length() == 0 ? "" : "\n").append(line);
            Matcher whole = STATEMENT.matcher(statement);
            if (whole.matches()) {
                addStatement(whole.group(1), whole.group(2));
                statement.setLength(0);
            }
        }
        Check.due("a statement of README.md has no end: " + statement, statement.toString().isBlank(), true);
        main.append("}\n");
    }

    private void addStatement(String code, String said) {
        if (code.strip().equals(NEW_DESK)) {
            main.append(NEW_DESK).append('\n');
            return;
        }
        Matcher answer = ANSWER.matcher(said == null ? "" : said);
        boolean answered = answer.matches();
        Check.due("README.md tells the answer of " + code, answered, true);
        if (answered) {
            String call = code.substring(0, code.length() - 1).strip();
            main.append("heard.accept(" + calls.size() + ", " + call + ");\n");
            calls.add(call);
            wants.add(answer.group(1));
        }
    }

    private void run(Path dir) throws IOException, ReflectiveOperationException {
        Path source = dir.resolve("ReadmeExamples.java");
        Files.writeString(source, "import java.nio.charset.StandardCharsets;\npublic final class ReadmeExamples {\n" + members
                + "public static void run(java.util.function.BiConsumer<Integer, Object> heard) {\n" + main + "}\n}\n");
        JavaCompiler compiler = ToolProvider.getSystemJavaCompiler();
        String path = System.getProperty("java.class.path");
        if (compiler == null) {
            throw new IllegalStateException("this java has no compiler in it; README.md's examples need one");
        }
        int code = compiler.run(null, null, null, "-cp", path, "-d", dir.toString(), source.toString());
        Check.due("javac of README.md's examples", code, 0);
        if (code != 0) {
            return;
        }
        URL[] urls = {dir.toUri().toURL()};
        try (URLClassLoader loader = new URLClassLoader(urls, ReadmeTest.class.getClassLoader())) {
            BiConsumer<Integer, Object> asked = this::hear;
            loader.loadClass("ReadmeExamples").getMethod("run", BiConsumer.class).invoke(null, asked);
        }
    }

    private void hear(int index, Object got) {
        String want = wants.get(index);
        heard++;
        Check.due("README.md: " + calls.get(index) + " is said to be " + want + ", it is " + got,
                got.toString().equals(want), true);
    }

    private static void delete(Path dir) throws IOException {
        try (Stream<Path> paths = Files.walk(dir)) {
            for (Path path : paths.sorted(Comparator.reverseOrder()).toList()) {
                Files.delete(path);
            }
        }
    }

    /** The rows of tables that show a text have read()'s answer and then place()'s as their numbers. */
    private void faults(List<String> lines) {
        boolean[] shown = new boolean[7];
        for (String line : lines) {
            Matcher text = TEXT.matcher(line);
            if (line.startsWith("|") && text.find()) {
                List<Integer> numbers = numbersOf(line);
                Check.due("numbers of README.md's row " + line, numbers.size(), 2);
                if (numbers.size() == 2) {
                    Check.faultAt(numbers.get(0), numbers.get(1), text.group(1));
                    shown[Math.floorMod(numbers.get(0), shown.length)] = true;
                }
            }
        }
        for (int kind = 1; kind <= 6; kind++) {
            Check.due("README.md shows fault " + kind, shown[kind], true);
        }
    }

    private static List<Integer> numbersOf(String row) {
        List<Integer> numbers = new ArrayList<>();
        for (String cell : row.split("\\|")) {
            if (NUMBER.matcher(cell.strip()).matches()) {
                numbers.add(Integer.parseInt(cell.strip()));
            }
        }
        return numbers;
    }

    /** Each call of the face has its row in the table of calls, and an example. */
    private void everyCallIsShown(List<String> lines) {
        for (Method method : ChipDesk.class.getDeclaredMethods()) {
            if (Modifier.isPublic(method.getModifiers())) {
                String name = method.getName();
                boolean row = lines.stream().anyMatch(line -> line.startsWith("| `" + name + "("));
                Check.due("README.md has a row for " + name, row, true);
                boolean example = calls.stream().anyMatch(call -> call.startsWith("desk." + name + "("));
                Check.due("README.md has an example of " + name, example, true);
            }
        }
    }
}
