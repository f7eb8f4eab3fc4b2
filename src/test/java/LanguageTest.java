import java.io.IOException;
import java.lang.reflect.Constructor;
import java.lang.reflect.Field;
import java.lang.reflect.Method;
import java.lang.reflect.Modifier;
import java.nio.file.Files;
import java.nio.file.Path;
import java.util.ArrayList;
import java.util.List;
import java.util.Set;
import java.util.TreeSet;
import java.util.regex.Matcher;
import java.util.regex.Pattern;

/** Those rules of LANGUAGE.md that can be seen from outside, and the document's face. */
public final class LanguageTest {
    private static final Path SOURCE = Path.of("src/main/java/PavedAnew.java");
    private static final Path DOCUMENT = Path.of("../shared/DOC.md");

    private final Checks checks = new Checks("LanguageTest");

    public static void main(String[] args) throws IOException {
        LanguageTest test = new LanguageTest();
        test.face(Files.readString(DOCUMENT));
        test.words(Files.readString(SOURCE));
        test.lengths(Files.readString(SOURCE));
        test.members();
        test.checks.end();
    }

    /** Rule 1: the document's methods and no other. */
    private void face(String document) {
        Set<String> due = new TreeSet<>();
        Matcher m = Pattern.compile("    public (int|long) (\\w+)\\(([^)]*)\\);").matcher(document);
        while (m.find()) {
            String types = m.group(3).replaceAll("(int|long) \\w+", "$1").replace(" ", "");
            due.add(m.group(1) + " " + m.group(2) + "(" + types + ")");
        }
        Set<String> is = new TreeSet<>();
        for (Method method : PavedAnew.class.getDeclaredMethods()) {
            if (!Modifier.isPrivate(method.getModifiers())) {
                is.add(told(method));
            }
        }
        checks.due("methods of the face", due.size(), 29);
        checks.holds("the face is " + is + ", due is " + due, is.equals(due));
        int modifiers = PavedAnew.class.getModifiers();
        checks.holds("public and final", Modifier.isPublic(modifiers) && Modifier.isFinal(modifiers));
    }

    private static String told(Method method) {
        List<String> types = new ArrayList<>();
        for (Class<?> type : method.getParameterTypes()) {
            types.add(type.getName());
        }
        return method.getReturnType().getName() + " " + method.getName() + "(" + String.join(",", types) + ")";
    }

    /** Rules 1, 2, 5 and 11, of the class and those inside it. */
    private void members() {
        Set<String> face = new TreeSet<>();
        for (Method method : PavedAnew.class.getMethods()) {
            face.add(method.getName());
        }
        for (Constructor<?> made : PavedAnew.class.getDeclaredConstructors()) {
            checks.holds("the one constructor", made.getParameterCount() == 0);
        }
        for (Field field : PavedAnew.class.getDeclaredFields()) {
            boolean told = Set.of("NONE", "UNKNOWN", "OUTSIDE", "STATE", "FULL").contains(field.getName());
            checks.holds("field " + field, Modifier.isPublic(field.getModifiers()) == told);
            checks.holds("hidden field " + field, told || Modifier.isPrivate(field.getModifiers()));
        }
        Class<?>[] inside = PavedAnew.class.getDeclaredClasses();
        checks.holds("at most twelve classes", inside.length + 1 <= 12);
        membersOf(PavedAnew.class, Set.of());
        for (Class<?> one : inside) {
            checks.holds(one + " is static", Modifier.isStatic(one.getModifiers()));
            checks.holds(one + " is hidden", !Modifier.isPublic(one.getModifiers()));
            membersOf(one, face);
        }
    }

    private void membersOf(Class<?> one, Set<String> takenNames) {
        int fields = 0;
        for (Field field : one.getDeclaredFields()) {
            boolean fixed = Modifier.isStatic(field.getModifiers());
            checks.holds("static " + field + " is final", !fixed || Modifier.isFinal(field.getModifiers()));
            fields += fixed ? 0 : 1;
        }
        checks.holds(one + " has at most twenty fields", fields <= 20);
        for (Method method : one.getDeclaredMethods()) {
            checks.holds(method + " takes at most seven", method.getParameterCount() <= 7);
            checks.holds(method + " bears a name of its own", !takenNames.contains(method.getName()));
        }
    }

    private static String withoutComments(String source) {
        return source.replaceAll("(?s)/\\*.*?\\*/", "").replaceAll("//[^\n]*", "");
    }

    /** Rules 4, 6, 12 and 13. */
    private void words(String source) {
        String code = withoutComments(source);
        for (String word : new String[] {"throw", "throws", "try", "catch", "finally", "synchronized", "assert", "import",
            "package", "native", "volatile", "double", "float", "random", "Exact", "hashCode", "toString", "equals",
            "Thread", "Object", "lambda"}) {
            checks.holds("no word " + word, !Pattern.compile("\\b" + word + "\\b").matcher(code).find());
        }
        checks.holds("no lambda", !code.contains("->") && !code.contains("::"));
        checks.holds("signs 1 to 127 alone", source.chars().allMatch(c -> c > 0 && c < 128));
        Set<String> listed = Set.of("Math.abs", "Math.max", "Math.min", "Integer.bitCount", "System.arraycopy");
        Matcher called = Pattern.compile("\\b(\\p{Upper}\\w*)\\.(\\w+)\\(").matcher(code);
        while (called.find()) {
            boolean own = code.contains("private static final class " + called.group(1) + " {");
            checks.holds("a call that rule 4 lists: " + called.group(), own || listed.contains(called.group(1) + "." + called.group(2)));
        }
    }

    /** Rule 11: methods stay short. */
    private void lengths(String source) {
        String[] lines = withoutComments(source).split("\n");
        Pattern head = Pattern.compile("^( {4}| {8})[a-z][\\w \\[\\]]* \\w+\\([^)]*\\) \\{$");
        int methods = 0;
        for (int i = 0; i < lines.length; i++) {
            Matcher m = head.matcher(lines[i]);
            if (m.find()) {
                methods++;
                int end = i;
                while (end < lines.length && !lines[end].equals(m.group(1) + "}")) {
                    end++;
                }
                checks.holds("short enough: " + lines[i].trim(), end - i < 40);
            }
        }
        checks.holds("methods were found", methods > 60);
    }
}
