import java.io.IOException;
import java.lang.reflect.Field;
import java.lang.reflect.Method;
import java.lang.reflect.Modifier;
import java.nio.file.Files;
import java.nio.file.Path;
import java.util.TreeSet;
import java.util.regex.Matcher;
import java.util.regex.Pattern;

/** The rules of LANGUAGE.md that can be seen in the text of Lendlathe.java. It runs in the project's directory. */
public final class LanguageTest {
    private static final String[] FORBIDDEN = {
        "->", "::", "\\bcatch\\b", "\\btry\\b", "\\bfinally\\b", "\\bsynchronized\\b", "\\bassert\\b", "\\bvar\\b",
        "\\bpackage\\b", "Exact\\b", "\\bSystem\\.(?!arraycopy)", "\\bRandom\\b", "\\bThread\\b", "\\bObject\\b",
        "\\bequals\\b", "\\bhashCode\\b", "\\btoString\\b", "\\bstatic \\{", "\"\\s*\\+", "\\+\\s*\"",
        "\\bprotected\\b", "\\bvolatile\\b", "\\bnative\\b", "Class\\b", "@",
    };

    public static void main(String[] args) throws IOException {
        String source = Files.readString(Path.of("src/main/java/Lendlathe.java"));
        String code = source.replaceAll("/\\*(?s:.*?)\\*/", "").replaceAll("//[^\n]*", "");
        for (String forbidden : FORBIDDEN) {
            Matcher matcher = Pattern.compile(forbidden).matcher(code);
            Expect.equal("the text holds " + forbidden, false, matcher.find());
        }
        imports(code);
        exceptions(code);
        fields(code);
        methodLengths(source);
        sizes();
        Expect.equal("signs beyond 127", true, source.chars().allMatch(sign -> sign < 128));
        Expect.end();
    }

    private static void imports(String code) {
        TreeSet<String> imports = new TreeSet<>();
        Matcher matcher = Pattern.compile("import ([^;]*);").matcher(code);
        while (matcher.find()) {
            imports.add(matcher.group(1));
        }
        Expect.equal("imports", "[java.util.ArrayList, java.util.NoSuchElementException]", imports.toString());
    }

    private static void exceptions(String code) {
        Matcher matcher = Pattern.compile("\\bthrow\\b[^;]*;").matcher(code);
        String due = "throw new (IllegalState|IllegalArgument|IndexOutOfBounds|Arithmetic|UnsupportedOperation"
                + "|NoSuchElement)Exception\\(\"[^\"]*\"\\);";
        while (matcher.find()) {
            Expect.equal(matcher.group(), true, matcher.group().matches(due));
        }
    }

    private static void fields(String code) {
        Matcher matcher = Pattern.compile("\\bstatic\\b[^;{(]*[;=]").matcher(code);
        while (matcher.find()) {
            Expect.equal(matcher.group(), true, matcher.group().startsWith("static final "));
        }
    }

    private static void sizes() {
        Class<?>[] inside = Lendlathe.class.getDeclaredClasses();
        Expect.equal("the classes are few", true, inside.length + 1 <= 12);
        size(Lendlathe.class);
        for (Class<?> type : inside) {
            Expect.equal(type.getName() + " is static", true, Modifier.isStatic(type.getModifiers()));
            Expect.equal(type.getName() + " is not public", false, Modifier.isPublic(type.getModifiers()));
            size(type);
        }
    }

    private static void size(Class<?> type) {
        int fields = 0;
        for (Field field : type.getDeclaredFields()) {
            fields += Modifier.isStatic(field.getModifiers()) ? 0 : 1;
        }
        Expect.equal("the fields of " + type.getName() + " are few", true, fields <= 20);
        for (Method method : type.getDeclaredMethods()) {
            Expect.equal("the parameters of " + method.getName() + " are few", true, method.getParameterCount() <= 7);
        }
    }

    private static void methodLengths(String source) {
        String[] lines = source.split("\n");
        int start = 0;
        for (int i = 0; i < lines.length; i++) {
            if (lines[i].matches("( {4}| {8})(public|private|[A-Za-z]).*\\{")) {
                start = lines[i].contains(" class ") ? lines.length : i;
            }
            if (lines[i].matches("( {4}| {8})\\}") && start < i) {
                Expect.equal("lines " + start + " to " + i + " are few", true, i - start <= 60);
            }
        }
    }
}
