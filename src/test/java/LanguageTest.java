import java.io.IOException;
import java.lang.reflect.Executable;
import java.lang.reflect.Field;
import java.lang.reflect.Method;
import java.lang.reflect.Modifier;
import java.nio.file.Files;
import java.nio.file.Path;
import java.util.ArrayList;
import java.util.List;
import java.util.regex.Matcher;
import java.util.regex.Pattern;

/** What of ../shared/LANGUAGE.md can be told from the source by simple means; it is run from the project's folder. */
public final class LanguageTest {
    private static final String[] NEVER = {
        "package", "import", "try", "catch", "finally", "synchronized", "assert", "var", "Object", "System", "Double",
        "Long", "Arrays", "String", "Override", "equals", "hashCode", "toString", "native", "volatile", "transient",
    };

    public static void main(String[] args) throws IOException {
        String source = Files.readString(Path.of("src/main/java/RowVeils.java"));
        for (int i = 0; i < source.length(); i++) {
            char c = source.charAt(i);
            Check.due("sign " + (int) c + " at " + i, c == '\n' || (c >= 32 && c < 127) ? 1 : 0, 1);
        }
        String code = source.replaceAll("(?s)/\\*.*?\\*/", " ").replaceAll("//[^\n]*", " ")
                .replaceAll("\"[^\"\n]*\"", "\"\"").replaceAll("'[^'\n]'", "' '");
        for (String word : NEVER) {
            Check.due("rules 1 to 6: uses of " + word, uses(code, "\\b" + word + "\\b"), 0);
        }
        Check.due("rule 2: lambdas and method references", uses(code, "->|::"), 0);
        Check.due("rule 6: throws that do not make their exception",
                uses(code, "\\bthrow\\b") - uses(code, "throw new (IndexOutOfBounds|IllegalArgument|IllegalState)Exception\\(\"\"\\);"), 0);
        Check.due("rule 7: indexes outside of the class that tests them", uses(outsideNumbersAndHistory(code), "\\w\\["), 0);
        Check.due("rule 7: divisions", uses(code, "[^/]/[^/]"), 1);
        Check.due("rule 7: remainders", uses(code, "%"), 1);
        members(RowVeils.class);
        List<Class<?>> inside = List.of(RowVeils.class.getDeclaredClasses());
        for (Class<?> one : inside) {
            members(one);
        }
        Check.due("rule 11: a dozen classes at most", inside.size() <= 12 ? 1 : 0, 1);
        methodLengths(source);
        Check.end("LanguageTest");
    }

    private static int uses(String code, String pattern) {
        Matcher matcher = Pattern.compile(pattern).matcher(code);
        int uses = 0;
        while (matcher.find()) {
            uses++;
        }
        return uses;
    }

    private static String outsideNumbersAndHistory(String code) {
        return code.replaceAll("(?s)class Numbers \\{.*?\n    \\}\n", "").replaceAll("(?s)class History \\{.*?\n    \\}\n", "");
    }

    private static void members(Class<?> of) {
        int own = 0;
        for (Field field : of.getDeclaredFields()) {
            int m = field.getModifiers();
            own += Modifier.isStatic(m) ? 0 : 1;
            Check.due("rule 5: " + field, !Modifier.isStatic(m) || Modifier.isFinal(m) ? 1 : 0, 1);
        }
        Check.due("rule 11: fields of " + of, own <= 20 ? 1 : 0, 1);
        List<Executable> all = new ArrayList<>(List.of(of.getDeclaredConstructors()));
        for (Method method : of.getDeclaredMethods()) {
            all.add(method);
        }
        for (Executable one : all) {
            Check.due("rule 11: parameters of " + one, one.getParameterCount() <= 7 ? 1 : 0, 1);
        }
    }

    /** Methods begin and end with a line that is indented by 4, those of the classes inside by 8. */
    private static void methodLengths(String source) {
        for (String indent : new String[] {"    ", "        "}) {
            Matcher matcher = Pattern.compile("(?m)^" + indent + "\\S[^\n]*(\\([^\n]*|Exception) \\{\n(?s:.*?)\n" + indent + "\\}\n").matcher(source);
            int methods = 0;
            while (matcher.find()) {
                methods++;
                int lines = uses(matcher.group(), "\n");
                Check.due("rule 11: lines of " + matcher.group().trim().split("\n")[0], lines <= 40 ? 1 : 0, 1);
            }
            Check.due("rule 11: methods found", methods > 30 ? 1 : 0, 1);
        }
    }
}
