import java.io.IOException;
import java.lang.reflect.Constructor;
import java.lang.reflect.Field;
import java.lang.reflect.Method;
import java.lang.reflect.Modifier;
import java.nio.charset.StandardCharsets;
import java.nio.file.Files;
import java.nio.file.Path;
import java.util.Arrays;
import java.util.HashSet;
import java.util.Set;
import java.util.TreeSet;
import java.util.regex.Matcher;
import java.util.regex.Pattern;

/** The face of the class, and those rules of the language that can be seen in it or in its file. */
public final class LanguageTest {
    private static final Path SOURCE = Path.of("src/main/java/DoubledRows.java");
    private static final Path DOCUMENT = Path.of("../shared/DOC.md");

    private LanguageTest() {
    }

    public static void main(String[] args) throws IOException {
        faceIsThatOfTheDocument();
        nothingElseIsOpen();
        noMethodInsideBearsAFaceName();
        noForbiddenWord();
        loopsAndLinesStayShort();
        Check.end();
    }

    private static String exceptionsOf(Class<?>[] types) {
        TreeSet<String> names = new TreeSet<>();
        for (Class<?> type : types) {
            names.add(type.getSimpleName());
        }
        return names.toString();
    }

    private static void faceIsThatOfTheDocument() throws IOException {
        String text = Files.readString(DOCUMENT, StandardCharsets.UTF_8);
        String face = text.substring(text.indexOf("```java"), text.indexOf("## Terms"));
        Set<String> due = new TreeSet<>();
        Pattern signature = Pattern.compile("public (int|long|float|boolean) (\\w+)\\((.*?)\\)(?: throws (.*?))?;");
        Matcher m = signature.matcher(face);
        while (m.find()) {
            String parameters = m.group(3).replaceAll("(\\w+) \\w+", "$1").replace(" ", "");
            TreeSet<String> thrown = new TreeSet<>();
            if (m.group(4) != null) {
                thrown.addAll(Arrays.asList(m.group(4).split(", ")));
            }
            due.add(m.group(1) + " " + m.group(2) + "(" + parameters + ") " + thrown);
        }
        Set<String> got = new TreeSet<>();
        for (Method method : DoubledRows.class.getDeclaredMethods()) {
            if (Modifier.isPublic(method.getModifiers())) {
                StringBuilder parameters = new StringBuilder();
                for (Class<?> type : method.getParameterTypes()) {
                    parameters.append(parameters.length() == 0 ? "" : ",").append(type.getSimpleName());
                }
                got.add(method.getReturnType().getSimpleName() + " " + method.getName() + "(" + parameters + ") "
                    + exceptionsOf(method.getExceptionTypes()));
            }
        }
        Check.same("methods of the face", got, due);
        Check.same("number of methods", due.size(), 30);
    }

    private static void nothingElseIsOpen() {
        int modifiers = DoubledRows.class.getModifiers();
        Check.same("public and final", Modifier.isPublic(modifiers) && Modifier.isFinal(modifiers), (Object) true);
        Constructor<?>[] constructors = DoubledRows.class.getDeclaredConstructors();
        Check.same("constructors", constructors.length, 1);
        Check.same("the constructor is public", Modifier.isPublic(constructors[0].getModifiers()), (Object) true);
        Set<String> open = new TreeSet<>();
        for (Field field : DoubledRows.class.getDeclaredFields()) {
            if (!Modifier.isPrivate(field.getModifiers())) {
                open.add(Modifier.toString(field.getModifiers()) + " " + field.getName());
            }
        }
        String start = "public static final ";
        Check.same("open fields", open, new TreeSet<>(Set.of(start + "SYNTAX_ERROR", start + "OUT_OF_RANGE",
            start + "TOO_MANY", start + "REFUSED")));
        for (Method method : DoubledRows.class.getDeclaredMethods()) {
            boolean fine = Modifier.isPublic(method.getModifiers()) || Modifier.isPrivate(method.getModifiers());
            Check.same(method.getName() + " is public or private", fine, (Object) true);
        }
        for (Class<?> inside : DoubledRows.class.getDeclaredClasses()) {
            int inner = inside.getModifiers();
            boolean isClosed = !Modifier.isPublic(inner) && !Modifier.isProtected(inner);
            Check.same(inside.getName() + " is closed", isClosed, (Object) true);
            Check.same(inside.getName() + " is static", Modifier.isStatic(inner), (Object) true);
            boolean isSmall = inside.getDeclaredFields().length <= 20;
            Check.same(inside.getName() + " has few fields", isSmall, (Object) true);
        }
    }

    private static void noMethodInsideBearsAFaceName() {
        Set<String> face = new HashSet<>();
        for (Method method : DoubledRows.class.getMethods()) {
            face.add(method.getName());
        }
        for (Method method : DoubledRows.class.getDeclaredMethods()) {
            boolean fine = Modifier.isPublic(method.getModifiers()) || !face.contains(method.getName());
            Check.same(method.getName() + " is a name of its own", fine, (Object) true);
        }
        for (Class<?> inside : DoubledRows.class.getDeclaredClasses()) {
            for (Method method : inside.getDeclaredMethods()) {
                boolean fine = !face.contains(method.getName());
                Check.same(inside.getName() + "." + method.getName() + " is a name of its own", fine, (Object) true);
            }
        }
    }

    private static void noForbiddenWord() throws IOException {
        String code = Files.readString(SOURCE, StandardCharsets.UTF_8);
        code = code.replaceAll("(?s)/\\*.*?\\*/", "").replaceAll("//.*", "");
        String[] forbidden = {"\\bpackage\\b", "->", "::", "\\btry\\b", "\\bcatch\\b", "\\bfinally\\b", "\\bassert\\b",
            "\\bsynchronized\\b", "\\brecord\\b", "\\bvar\\b", "\\bdouble\\b", "System\\.(?!arraycopy)", "\\bequals\\b",
            "\\bhashCode\\b", "\\btoString\\b", "\\w+Exact\\b", "Character\\.", "Float\\.", "Double\\.", "Arrays\\.",
            "String\\.", "\" ?\\+|\\+ ?\"", "import (?!java\\.util\\.NoSuchElementException;)", "[^\\x00-\\x7f]"};
        for (String word : forbidden) {
            Check.same(word + " in the file", Pattern.compile(word).matcher(code).find(), (Object) false);
        }
    }

    private static void loopsAndLinesStayShort() throws IOException {
        int start = 0;
        int line = 0;
        for (String text : Files.readAllLines(SOURCE, StandardCharsets.UTF_8)) {
            line++;
            Check.same("line " + line + " is short", text.length() <= 120, (Object) true);
            if (text.matches(" {4}( {4})?\\S.*\\) .*\\{|.*\\) \\{") && text.matches(" {4,8}[a-z].*")) {
                start = line;
            }
            if (text.matches(" {4}( {4})?\\}")) {
                Check.same("the method to line " + line + " is short", line - start <= 60, (Object) true);
                start = line;
            }
        }
    }
}
