import java.io.IOException;
import java.lang.reflect.Constructor;
import java.lang.reflect.Field;
import java.lang.reflect.Method;
import java.lang.reflect.Modifier;
import java.nio.file.Files;
import java.nio.file.Path;
import java.util.ArrayList;
import java.util.Arrays;
import java.util.List;
import java.util.Set;
import java.util.TreeSet;
import java.util.regex.Matcher;
import java.util.regex.Pattern;

/** The class's face as the document tells it, and what can be seen of LANGUAGE.md's rules. */
public final class FaceTest {
    private static final String[] FACE = {
        "int town(1)", "int pull(2)", "int member(1)", "int type(1)", "int clear(0)", "int read(0)", "int build(3)",
        "int year(1)", "int undo(0)", "int now(1)", "int of(3)", "int plot(2)", "int then(1)", "int when(1)",
        "int fits(3)", "int rolls(1)", "int lies(1)", "int pass(2)", "int order(2)", "int council(1)", "int power(1)",
        "int built(2)", "int note(4)", "int mark(5)", "int forget(1)", "int is(0)", "int watch(0)", "int kinds(1)",
        "int tries(1)", "int game(0)", "int chance(3)", "int times(2)", "long part(1)", "int image(1)", "int from(1)",
        "int status(1)", "int count(1)", "long digest(0)"};

    private static final String FORBIDDEN =
            "\\b(throw|throws|try|catch|finally|synchronized|assert|import|package|protected|float|double|instanceof"
            + "|native|volatile|transient|strictfp|System\\.(?!arraycopy)\\w+|[a-z]+Exact|yield|record|enum)\\b|->|::";

    /** What the program calls of the library; all of it is on the list of rule 4. */
    private static final Set<String> LIBRARY = Set.of(
            "Math.abs", "Math.max", "Math.min", "Integer.compare", "Integer.bitCount", "System.arraycopy");

    private static void constants() {
        Due.is("NONE", LevelGone.NONE, -1);
        Due.is("BAD", LevelGone.BAD, -2);
        Due.is("NO", LevelGone.NO, -3);
        Due.is("FULL", LevelGone.FULL, -4);
    }

    private static String told(Method method) {
        for (Class<?> type : method.getParameterTypes()) {
            Due.that(method.getName() + " takes int alone", type == int.class);
        }
        return method.getReturnType() + " " + method.getName() + "(" + method.getParameterCount() + ")";
    }

    private static void face() {
        Set<String> methods = new TreeSet<>();
        Set<String> names = new TreeSet<>();
        List<Method> others = new ArrayList<>();
        for (Method method : LevelGone.class.getDeclaredMethods()) {
            if (Modifier.isPrivate(method.getModifiers())) {
                others.add(method);
            } else {
                Due.is(method + " is public alone", method.getModifiers(), Modifier.PUBLIC);
                methods.add(told(method));
                names.add(method.getName());
            }
        }
        Due.that("the face is " + methods, methods.equals(new TreeSet<>(Arrays.asList(FACE))));
        for (Class<?> inside : LevelGone.class.getDeclaredClasses()) {
            others.addAll(Arrays.asList(inside.getDeclaredMethods()));
        }
        for (Method method : others) {
            Due.that(method + " bears no name of the face", !names.contains(method.getName()));
            Due.that(method + " takes seven at most", method.getParameterCount() <= 7);
        }
        Constructor<?>[] constructors = LevelGone.class.getDeclaredConstructors();
        Due.is("constructors", constructors.length, 1);
        Due.is("it is public", constructors[0].getModifiers(), Modifier.PUBLIC);
        Due.is("it takes", constructors[0].getParameterCount(), 0);
        Due.is("the class is public, final", LevelGone.class.getModifiers(), Modifier.PUBLIC | Modifier.FINAL);
    }

    private static void classes() {
        Class<?>[] inside = LevelGone.class.getDeclaredClasses();
        Due.that("some twelve classes", inside.length < 12);
        for (Class<?> one : inside) {
            Due.that(one + " is static", Modifier.isStatic(one.getModifiers()));
            Due.that(one + " is not public", !Modifier.isPublic(one.getModifiers()));
            fields(one);
        }
        fields(LevelGone.class);
        for (Field field : LevelGone.class.getDeclaredFields()) {
            boolean constant = Arrays.asList("NONE", "BAD", "NO", "FULL").contains(field.getName());
            Due.that(field + " is private", constant != Modifier.isPrivate(field.getModifiers()));
        }
    }

    private static void fields(Class<?> one) {
        int kept = 0;
        for (Field field : one.getDeclaredFields()) {
            if (Modifier.isStatic(field.getModifiers())) {
                Due.that(field + " is final", Modifier.isFinal(field.getModifiers()));
                Due.that(field + " is a number", field.getType().isPrimitive());
            } else {
                kept++;
            }
        }
        Due.that(one + " has some twenty fields", kept <= 20);
    }

    private static void text() throws IOException {
        byte[] bytes = Files.readAllBytes(Path.of("src/main/java/LevelGone.java"));
        for (byte b : bytes) {
            if (b < 1) {
                Due.that("signs are 1 to 127", false);
            }
        }
        String code = new String(bytes, java.nio.charset.StandardCharsets.US_ASCII)
                .replaceAll("(?s)/\\*.*?\\*/", " ").replaceAll("//[^\n]*", " ");
        Matcher forbidden = Pattern.compile(FORBIDDEN).matcher(code);
        while (forbidden.find()) {
            Due.that("'" + forbidden.group() + "' is not of the language", false);
        }
        library(code);
        Due.is("classes that are public", code.split("public final class").length - 1, 1);
        shortMethods(code);
    }

    private static void library(String code) {
        Matcher called = Pattern.compile("\\b(Math|Integer|Long|System|Arrays|String|List|Character)\\.\\w+").matcher(code);
        while (called.find()) {
            Due.that(called.group() + " is of the library that is told", LIBRARY.contains(called.group()));
        }
        Matcher made = Pattern.compile("\\bnew (\\w+)").matcher(code);
        while (made.find()) {
            boolean own = code.contains("class " + made.group(1) + " {") || made.group(1).equals("int");
            Due.that(made.group() + " is of its own", own);
        }
    }

    /** Rule 2: a class without a name would be one more, LevelGone$1. */
    private static void noAnonymousClass() {
        Due.that("no class without a name", LevelGone.class.getResource("LevelGone$1.class") == null);
        Due.that("classes are found so", LevelGone.class.getResource("LevelGone$Town.class") != null);
    }

    private static void shortMethods(String code) {
        int lines = 0;
        for (String line : code.split("\n")) {
            boolean head = line.matches("( {4}| {8})(public|private|static|[a-z]\\w* |[A-Z]\\w* )[^;=]*\\) \\{");
            lines = head ? 0 : lines + 1;
            if (line.equals("    }") || line.equals("        }")) {
                Due.that("a method of " + lines + " lines", lines <= 60 || line.equals("    }"));
            }
        }
    }

    public static void main(String[] args) throws IOException {
        constants();
        face();
        classes();
        noAnonymousClass();
        text();
        Due.end();
    }
}
