import java.lang.reflect.Constructor;
import java.lang.reflect.Field;
import java.lang.reflect.Method;
import java.lang.reflect.Modifier;
import java.util.ArrayList;
import java.util.Arrays;
import java.util.List;
import java.util.Set;
import java.util.TreeSet;

/** The class's face as the document tells it: "The public face", and rule 1 of LANGUAGE.md. */
public final class FaceTest {
    private static final String[] FACE = {
        "int town(1)", "int pull(2)", "int member(1)", "int type(1)", "int clear(0)", "int read(0)", "int build(3)",
        "int year(1)", "int undo(0)", "int now(1)", "int of(3)", "int plot(2)", "int then(1)", "int when(1)",
        "int fits(3)", "int rolls(1)", "int lies(1)", "int pass(2)", "int order(2)", "int council(1)", "int power(1)",
        "int built(2)", "int note(4)", "int mark(5)", "int forget(1)", "int is(0)", "int watch(0)", "int kinds(1)",
        "int tries(1)", "int game(0)", "int chance(3)", "int times(2)", "long part(1)", "int image(1)", "int from(1)",
        "int status(1)", "int count(1)", "long digest(0)"};

    private static void constants() {
        Due.is("NONE", LevelGone.NONE, -1);
        Due.is("BAD", LevelGone.BAD, -2);
        Due.is("NO", LevelGone.NO, -3);
        Due.is("FULL", LevelGone.FULL, -4);
    }

    private static String told(Method method) {
        for (Class<?> type : method.getParameterTypes()) {
            Due.that(method.getName() + " takes int alone", type == int.class);
        }
        return method.getReturnType() + " " + method.getName() + "(" + method.getParameterCount() + ")";
    }

    private static void face() {
        Set<String> methods = new TreeSet<>();
        Set<String> names = new TreeSet<>();
        List<Method> others = new ArrayList<>();
        for (Method method : LevelGone.class.getDeclaredMethods()) {
            if (Modifier.isPrivate(method.getModifiers())) {
                others.add(method);
            } else {
                Due.is(method + " is public alone", method.getModifiers(), Modifier.PUBLIC);
                methods.add(told(method));
                names.add(method.getName());
            }
        }
        Due.that("the face is " + methods, methods.equals(new TreeSet<>(Arrays.asList(FACE))));
        for (Class<?> inside : LevelGone.class.getDeclaredClasses()) {
            others.addAll(Arrays.asList(inside.getDeclaredMethods()));
        }
        for (Method method : others) {
            Due.that(method + " bears no name of the face", !names.contains(method.getName()));
        }
        Constructor<?>[] constructors = LevelGone.class.getDeclaredConstructors();
        Due.is("constructors", constructors.length, 1);
        Due.is("it is public", constructors[0].getModifiers(), Modifier.PUBLIC);
        Due.is("it takes", constructors[0].getParameterCount(), 0);
        Due.is("the class is public, final", LevelGone.class.getModifiers(), Modifier.PUBLIC | Modifier.FINAL);
    }

    private static void classes() {
        Class<?>[] inside = LevelGone.class.getDeclaredClasses();
        for (Class<?> one : inside) {
            Due.that(one + " is static", Modifier.isStatic(one.getModifiers()));
            Due.that(one + " is not public", !Modifier.isPublic(one.getModifiers()));
        }
        for (Field field : LevelGone.class.getDeclaredFields()) {
            boolean constant = Arrays.asList("NONE", "BAD", "NO", "FULL").contains(field.getName());
            Due.that(field + " is private", constant != Modifier.isPrivate(field.getModifiers()));
        }
    }

    public static void main(String[] args) {
        constants();
        face();
        classes();
        Due.end();
    }
}
