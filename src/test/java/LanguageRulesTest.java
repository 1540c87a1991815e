import java.io.IOException;
import java.lang.reflect.Constructor;
import java.lang.reflect.Field;
import java.lang.reflect.Method;
import java.lang.reflect.Modifier;
import java.nio.file.Files;
import java.nio.file.Path;
import java.util.List;
import java.util.Set;
import java.util.TreeSet;
import java.util.regex.Matcher;
import java.util.regex.Pattern;

/** Rules of LANGUAGE.md, as far as they can be seen in the text and the members of the program. */
public final class LanguageRulesTest {
    private static final Path PROGRAM = Path.of("src/main/java/TollTrustees.java");
    private static final int LONGEST_METHOD = 60;
    private static final int MOST_FIELDS = 20;
    private static final int MOST_PARAMETERS = 7;

    private LanguageRulesTest() {
    }

    public static void main(String[] args) throws IOException {
        String text = Files.readString(PROGRAM);
        face();
        members(TollTrustees.class);
        for (Class<?> inner : TollTrustees.class.getDeclaredClasses()) {
            members(inner);
            Checks.due(inner + " is static", true, () -> Modifier.isStatic(inner.getModifiers()));
            Checks.due(inner + " is private", true, () -> Modifier.isPrivate(inner.getModifiers()));
        }
        Checks.due("not more than twelve classes", true, () -> TollTrustees.class.getDeclaredClasses().length < 12);
        words(withoutCommentsAndTexts(text));
        methodLengths(text.split("\n"));
        Checks.due("signs of the text", true, () -> text.chars().allMatch(sign -> sign == '\n' || sign >= 32 && sign < 127));
        Checks.end("LanguageRulesTest");
    }

    private static void face() {
        Set<String> due = new TreeSet<>(List.of("feed", "trim", "teach", "errorAt", "count", "mile", "stretch", "gate",
                "traffic", "toll", "journey", "worst", "setToll", "setWheels", "mend", "grant", "pass", "until",
                "foresee", "advise", "widen", "mean", "digest"));
        Set<String> got = new TreeSet<>();
        for (Method method : TollTrustees.class.getDeclaredMethods()) {
            if (Modifier.isPublic(method.getModifiers())) {
                got.add(method.getName());
                Checks.due(method + " is no static one", false, () -> Modifier.isStatic(method.getModifiers()));
            } else {
                Checks.due(method + " is private", true, () -> Modifier.isPrivate(method.getModifiers()));
                Checks.due(method + " bears no public name", false, () -> due.contains(method.getName()));
            }
        }
        Checks.due("the public methods", due, () -> got);
        Checks.due("the class", Modifier.PUBLIC | Modifier.FINAL, () -> TollTrustees.class.getModifiers());
        Constructor<?>[] constructors = TollTrustees.class.getDeclaredConstructors();
        Checks.due("one constructor", 1, () -> constructors.length);
        Checks.due("it takes nothing", 0, () -> constructors[0].getParameterCount());
        for (Field field : TollTrustees.class.getDeclaredFields()) {
            Checks.due(field + " is private", true, () -> Modifier.isPrivate(field.getModifiers()));
        }
    }

    private static void members(Class<?> of) {
        int own = 0;
        for (Field field : of.getDeclaredFields()) {
            if (Modifier.isStatic(field.getModifiers())) {
                Checks.due(field + " is final", true, () -> Modifier.isFinal(field.getModifiers()));
            } else {
                own++;
            }
        }
        int fields = own;
        Checks.due("not too many fields of " + of, true, () -> fields <= MOST_FIELDS);
        for (Method method : of.getDeclaredMethods()) {
            Checks.due(method + " takes few", true, () -> method.getParameterCount() <= MOST_PARAMETERS);
        }
    }

    private static String withoutCommentsAndTexts(String text) {
        return text.replaceAll("(?s)/\\*.*?\\*/", "").replaceAll("//[^\n]*", "").replaceAll("\"[^\"\n]*\"", "\"\"");
    }

    private static void words(String code) {
        List<String> none = List.of("->", "::", "\\btry\\b", "\\bcatch\\b", "\\bfinally\\b", "\\bassert\\b", "\\bimport\\b",
                "\\bpackage\\b", "\\bsynchronized\\b", "\\bprotected\\b", "\\bnull\\b", "static \\{", "\"\"\\s*\\+",
                "\\+\\s*\"\"", "Exact\\(", "\\bnative\\b", "@", "\\bObject\\b", "Error\\b", "Throwable");
        for (String word : none) {
            Checks.due("no " + word, false, () -> Pattern.compile(word).matcher(code).find());
        }
        Matcher thrown = Pattern.compile("\\bthrow\\b[^;]*;").matcher(code);
        while (thrown.find()) {
            String all = thrown.group();
            Checks.due(all, true, () -> all.matches(
                    "throw new (IllegalState|IllegalArgument|IndexOutOfBounds)Exception\\(\"\"\\);"));
        }
        Matcher made = Pattern.compile("\\bnew ([A-Za-z]+)").matcher(code);
        while (made.find()) {
            String name = made.group(1);
            Checks.due("new " + name, true, () -> name.endsWith("Exception")
                    || Set.of("int", "byte", "Tokens", "Grammar", "Survey", "Road", "Reckoner", "Trust", "Orders")
                    .contains(name));
        }
    }

    private static void methodLengths(String[] lines) {
        Pattern head = Pattern.compile("( {4}| {8})[A-Za-z].*\\{");
        int start = -1;
        for (int i = 0; i < lines.length; i++) {
            boolean isClass = lines[i].contains(" class ");
            if (head.matcher(lines[i]).matches() && !isClass) {
                start = i;
            }
            if (start >= 0 && (lines[i].equals("        }") || lines[i].equals("    }"))) {
                int length = i - start + 1;
                Checks.due("short: " + lines[start].trim(), true, () -> length <= LONGEST_METHOD);
                start = -1;
            }
        }
    }
}
