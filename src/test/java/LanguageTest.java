import java.io.IOException;
import java.lang.reflect.Constructor;
import java.lang.reflect.Field;
import java.lang.reflect.Method;
import java.lang.reflect.Modifier;
import java.nio.charset.StandardCharsets;
import java.nio.file.Files;
import java.nio.file.Path;
import java.util.ArrayList;
import java.util.Arrays;
import java.util.HashSet;
import java.util.List;
import java.util.Set;
import java.util.TreeSet;
import java.util.regex.Matcher;
import java.util.regex.Pattern;

/** The face of the class (rule 1 of the language), and those rules that can be seen in the letters of its file. */
public final class LanguageTest {
    private static final Path SOURCE = Path.of("src/main/java/DoubledRows.java");
    private static final Path DOCUMENT = Path.of("../shared/DOC.md");

    private LanguageTest() {
    }

    public static void main(String[] args) throws IOException {
        faceIsThatOfTheDocument();
        eachPromiseIsOfTheFace();
        allNumbersAreIntegers();
        nothingElseIsOpen();
        noMethodInsideBearsAFaceName();
        noForbiddenWord();
        linesStayShort();
        Check.end();
    }

    private static final Pattern SIGNATURE =
        Pattern.compile("(int|long|float|boolean) (\\w+)\\((.*?)\\)(?: throws ([A-Za-z, ]+))?");

    private static String exceptionsOf(Class<?>[] types) {
        TreeSet<String> names = new TreeSet<>();
        for (Class<?> type : types) {
            names.add(type.getSimpleName());
        }
        return names.toString();
    }

    /** The signatures behind so much ahead of each, and so much behind it. */
    private static Set<String> signaturesIn(String text, String ahead, String behind) {
        Set<String> signatures = new TreeSet<>();
        Matcher m = Pattern.compile(ahead + SIGNATURE.pattern() + behind).matcher(text);
        while (m.find()) {
            String parameters = m.group(3).replaceAll("(\\w+) \\w+", "$1").replace(" ", "");
            TreeSet<String> thrown = new TreeSet<>();
            if (m.group(4) != null) {
                thrown.addAll(Arrays.asList(m.group(4).split(", ")));
            }
            signatures.add(m.group(1) + " " + m.group(2) + "(" + parameters + ") " + thrown);
        }
        return signatures;
    }

    private static Set<String> signaturesOfTheClass() {
        Set<String> signatures = new TreeSet<>();
        for (Method method : DoubledRows.class.getDeclaredMethods()) {
            if (Modifier.isPublic(method.getModifiers())) {
                StringBuilder parameters = new StringBuilder();
                for (Class<?> type : method.getParameterTypes()) {
                    parameters.append(parameters.length() == 0 ? "" : ",").append(type.getSimpleName());
                }
                signatures.add(method.getReturnType().getSimpleName() + " " + method.getName() + "(" + parameters
                    + ") " + exceptionsOf(method.getExceptionTypes()));
            }
        }
        return signatures;
    }

    private static void faceIsThatOfTheDocument() throws IOException {
        String text = Files.readString(DOCUMENT, StandardCharsets.UTF_8);
        String face = text.substring(text.indexOf("```java"), text.indexOf("## Terms"));
        Set<String> due = signaturesIn(face, "public ", ";");
        Check.same("number of methods", due.size(), 30);
        Check.same("methods of the face", signaturesOfTheClass(), due);
    }

    private static void eachPromiseIsOfTheFace() throws IOException {
        String text = Files.readString(DOCUMENT, StandardCharsets.UTF_8);
        String promises = text.substring(text.indexOf("## Promise 1:"));
        Check.same("methods of the promises", signaturesIn(promises, "\n`", "`:"), signaturesOfTheClass());
        Check.same("the constructor's promise", promises.contains("\n`DoubledRows()`:"), (Object) true);
        Check.same("parameters of the constructor",
            DoubledRows.class.getDeclaredConstructors()[0].getParameterCount(), 0);
    }

    private static void allNumbersAreIntegers() {
        Check.sentence("All numbers are integers, except where float is named.");
        Set<String> others = new TreeSet<>();
        for (Method method : DoubledRows.class.getDeclaredMethods()) {
            if (Modifier.isPublic(method.getModifiers())) {
                List<Class<?>> types = new ArrayList<>(List.of(method.getParameterTypes()));
                types.add(method.getReturnType());
                types.removeIf(type -> type == int.class || type == long.class || type == boolean.class);
                types.forEach(type -> others.add(method.getName() + ": " + type));
            }
        }
        Check.same("numbers that are no integers", others, Set.of("costOfOne: float"));
        for (Field field : DoubledRows.class.getFields()) {
            Check.same("the type of " + field.getName(), field.getType(), int.class);
        }
    }

    private static void nothingElseIsOpen() {
        int modifiers = DoubledRows.class.getModifiers();
        Check.same("public and final", Modifier.isPublic(modifiers) && Modifier.isFinal(modifiers), (Object) true);
        Constructor<?>[] constructors = DoubledRows.class.getDeclaredConstructors();
        Check.same("constructors", constructors.length, 1);
        Check.same("the constructor is public", Modifier.isPublic(constructors[0].getModifiers()), (Object) true);
        Set<String> open = new TreeSet<>();
        for (Field field : DoubledRows.class.getDeclaredFields()) {
            if (!Modifier.isPrivate(field.getModifiers())) {
                open.add(Modifier.toString(field.getModifiers()) + " " + field.getName());
            }
        }
        String start = "public static final ";
        Check.same("open fields", open, new TreeSet<>(Set.of(start + "SYNTAX_ERROR", start + "OUT_OF_RANGE",
            start + "TOO_MANY", start + "REFUSED")));
        for (Method method : DoubledRows.class.getDeclaredMethods()) {
            boolean fine = Modifier.isPublic(method.getModifiers()) || Modifier.isPrivate(method.getModifiers());
            Check.same(method.getName() + " is public or private", fine, (Object) true);
        }
        for (Class<?> inside : DoubledRows.class.getDeclaredClasses()) {
            int inner = inside.getModifiers();
            boolean isClosed = !Modifier.isPublic(inner) && !Modifier.isProtected(inner);
            Check.same(inside.getName() + " is closed", isClosed, (Object) true);
            Check.same(inside.getName() + " is static", Modifier.isStatic(inner), (Object) true);
            boolean isSmall = inside.getDeclaredFields().length <= 20;
            Check.same(inside.getName() + " has few fields", isSmall, (Object) true);
        }
    }

    private static void noMethodInsideBearsAFaceName() {
        Set<String> face = new HashSet<>();
        for (Method method : DoubledRows.class.getMethods()) {
            face.add(method.getName());
        }
        for (Method method : DoubledRows.class.getDeclaredMethods()) {
            boolean fine = Modifier.isPublic(method.getModifiers()) || !face.contains(method.getName());
            Check.same(method.getName() + " is a name of its own", fine, (Object) true);
        }
        for (Class<?> inside : DoubledRows.class.getDeclaredClasses()) {
            for (Method method : inside.getDeclaredMethods()) {
                boolean fine = !face.contains(method.getName());
                Check.same(inside.getName() + "." + method.getName() + " is a name of its own", fine, (Object) true);
            }
        }
    }

    /** What a tree does not show; LanguageRulesTest looks at all else. */
    private static void noForbiddenWord() throws IOException {
        String code = Files.readString(SOURCE, StandardCharsets.UTF_8);
        String[] forbidden = {"\\bvar\\b", "import (?!java\\.util\\.NoSuchElementException;)", "[^\\x20-\\x7e\n]"};
        for (String word : forbidden) {
            Check.same(word + " in the file", Pattern.compile(word).matcher(code).find(), (Object) false);
        }
    }

    private static void linesStayShort() throws IOException {
        int line = 0;
        for (String text : Files.readAllLines(SOURCE, StandardCharsets.UTF_8)) {
            line++;
            Check.same("line " + line + " is short", text.length() <= 120, (Object) true);
        }
    }
}
