import java.io.IOException;
import java.lang.reflect.Method;
import java.lang.reflect.Modifier;
import java.nio.file.Files;
import java.nio.file.Path;
import java.util.ArrayList;
import java.util.List;
import java.util.TreeSet;
import java.util.regex.Matcher;
import java.util.regex.Pattern;

/** README.md says what the document says, and its example does what is said there. It runs in the project's directory. */
public final class ReadmeTest {
    private static final Pattern SIGNATURE = Pattern.compile("`\\w+ (\\w+)\\((.*?)\\)( throws .*?)?`: .*");
    private static final Pattern PARAMETER = Pattern.compile("- `(\\w+)`: (.*)");
    private static final Pattern CALL = Pattern.compile("`(\\w+\\([\\w, ]*\\))`");

    private static List<String> readme;
    private static final TreeSet<String> callsOfDocument = new TreeSet<>();
    private static final TreeSet<String> argumentsOfDocument = new TreeSet<>();

    public static void main(String[] args) throws IOException, InterruptedException {
        readme = Files.readAllLines(Path.of("README.md"));
        example();
        readDocument(Files.readAllLines(Path.of("../shared/DOC.md")));
        everyCallStands();
        nothingElseStands();
        everyTestStands();
        Expect.end();
    }

    private static void example() throws IOException, InterruptedException {
        Path directory = Files.createTempDirectory("readme");
        Path source = directory.resolve("Example.java");
        Path output = directory.resolve("output");
        Files.write(source, block("java"));
        int code = new ProcessBuilder(Path.of(System.getProperty("java.home"), "bin", "java").toString(),
                "-cp", System.getProperty("java.class.path"), source.toString())
                .redirectErrorStream(true).redirectOutput(output.toFile()).start().waitFor();
        Expect.equal("the exit code of the example", 0, code);
        Expect.equal("what the example prints", block("text"), Files.readAllLines(output));
        Files.delete(source);
        Files.delete(output);
        Files.delete(directory);
    }

    /** The lines of the one block of this language. */
    private static List<String> block(String language) {
        int start = readme.indexOf("```" + language);
        Expect.equal("there is a block of " + language, true, start >= 0);
        List<String> rest = readme.subList(start + 1, readme.size());
        return rest.subList(0, rest.indexOf("```"));
    }

    private static void readDocument(List<String> document) {
        String call = "";
        for (String line : document) {
            Matcher signature = SIGNATURE.matcher(line);
            Matcher parameter = PARAMETER.matcher(line);
            if (signature.matches()) {
                String names = signature.group(2).replaceAll("(int|char) ", "");
                call = signature.group(1);
                callsOfDocument.add(call + "(" + names + ")");
                exceptionsOf(call + "(" + names + ")", exceptions(signature.group(3)));
            } else if (parameter.matches()) {
                argumentsOfDocument.add(parameter.group(1));
                rangeOf(call, parameter.group(1), parameter.group(2));
            }
        }
    }

    private static List<String> exceptions(String text) {
        return all("\\w+Exception", text == null ? "" : text);
    }

    private static List<String> all(String pattern, String text) {
        List<String> found = new ArrayList<>();
        Matcher matcher = Pattern.compile(pattern).matcher(text);
        while (matcher.find()) {
            found.add(matcher.group());
        }
        return found;
    }

    private static List<String> cells(String row) {
        return List.of(row.substring(1).split("\\|"));
    }

    private static void exceptionsOf(String call, List<String> due) {
        List<String> rows = new ArrayList<>();
        for (String line : readme) {
            if (line.startsWith("| `" + call + "` |")) {
                rows.add(line);
            }
        }
        Expect.equal("rows of " + call, 1, rows.size());
        for (String row : rows) {
            List<String> cells = cells(row);
            Expect.equal("columns of " + call, 3, cells.size());
            Expect.equal("exceptions of " + call, due, exceptions(cells.get(cells.size() - 1)));
        }
    }

    /** One of the argument's rows has the document's numbers; if there are several, it is the one that names the call. */
    private static void rangeOf(String call, String name, String range) {
        List<String> rows = new ArrayList<>();
        for (String line : readme) {
            if (line.startsWith("| `") && cells(line).size() == 4 && cells(line).get(0).contains("`" + name + "`")) {
                rows.add(line);
            }
        }
        if (rows.stream().anyMatch(row -> cells(row).get(1).contains("`" + call + "`"))) {
            rows.removeIf(row -> !cells(row).get(1).contains("`" + call + "`"));
        } else {
            rows.removeIf(row -> cells(row).get(1).contains(" in `"));
        }
        Expect.equal("rows of the argument " + name + " in " + call, 1, rows.size());
        for (String row : rows) {
            String told = cells(row).get(2);
            for (String number : all("\\d+|'.'|present", range)) {
                boolean stands = all("\\d+|'.'|present", told).contains(number);
                Expect.equal(number + " in the range of " + name + " in " + call, true, stands);
            }
        }
    }

    private static void everyCallStands() {
        for (Method method : Lendlathe.class.getDeclaredMethods()) {
            if (Modifier.isPublic(method.getModifiers())) {
                boolean stands = callsOfDocument.stream().anyMatch(call -> call.startsWith(method.getName() + "("));
                Expect.equal(method.getName() + " was read from the document", true, stands);
            }
        }
        Expect.equal("the number of calls", 41, callsOfDocument.size());
    }

    private static void nothingElseStands() {
        for (String line : readme) {
            if (line.startsWith("| `") && cells(line).size() == 3) {
                Matcher call = CALL.matcher(cells(line).get(0));
                Expect.equal(line, true, call.find() && callsOfDocument.contains(call.group(1)));
            } else if (line.startsWith("| `") && cells(line).size() == 4) {
                for (String name : all("\\w+", cells(line).get(0))) {
                    Expect.equal(line, true, argumentsOfDocument.contains(name));
                }
            }
        }
    }

    private static void everyTestStands() throws IOException {
        try (var files = Files.newDirectoryStream(Path.of("src/test/java"), "*{Test,Bounds}.java")) {
            for (Path file : files) {
                String name = file.getFileName().toString().replace(".java", "");
                boolean stands = readme.stream().anyMatch(line -> line.contains("`" + name + "`"));
                Expect.equal(name + " stands in the tables of tests", true, stands || name.equals("Bounds"));
            }
        }
    }
}
