import java.lang.reflect.Constructor;
import java.lang.reflect.Field;
import java.lang.reflect.Method;
import java.lang.reflect.Modifier;
import java.util.Arrays;
import java.util.TreeSet;

/** The public face is the document's, and nothing else can be seen from outside (rules 1, 5 and 11 of the language). */
public final class FaceTest {
    private static int wrong = 0;

    private static void due(String what, Object got, Object want) {
        if (!got.equals(want)) {
            wrong++;
            System.out.println(what + " is " + got + ", due is " + want);
        }
    }

    private static void face() {
        Class<?> c = PartnerStack.class;
        due("the class", Modifier.toString(c.getModifiers()), "public final");
        TreeSet<String> seen = new TreeSet<>();
        for (Method m : c.getDeclaredMethods()) {
            if (!Modifier.isPrivate(m.getModifiers())) {
                seen.add(m.getReturnType() + " " + m.getName() + Arrays.toString(m.getParameterTypes())
                    + Arrays.toString(m.getExceptionTypes()));
            }
        }
        String index = "class java.lang.IndexOutOfBoundsException";
        String argument = "class java.lang.IllegalArgumentException";
        due("methods", seen, new TreeSet<>(Arrays.asList(
            "void memory[int, int][" + index + "]",
            "int byteAt[int][" + index + "]",
            "int execute[int, int, int, int][" + argument + "]",
            "int needs[int, int][" + argument + "]",
            "int word[int][" + argument + "]",
            "int part[int, int][" + index + ", " + argument + "]")));
        due("constructors", c.getDeclaredConstructors().length, 1);
        for (Constructor<?> k : c.getDeclaredConstructors()) {
            due("constructor", k.toString(), "public PartnerStack()");
        }
        TreeSet<String> constants = new TreeSet<>();
        for (Field f : c.getDeclaredFields()) {
            if (!Modifier.isPrivate(f.getModifiers())) {
                constants.add(f.toString());
            }
        }
        due("constants", constants, new TreeSet<>(Arrays.asList(
            "public static final int PartnerStack.DONE",
            "public static final int PartnerStack.NO_CODE",
            "public static final int PartnerStack.REFUSED")));
        due("DONE", PartnerStack.DONE, 0);
        due("NO_CODE", PartnerStack.NO_CODE, 1);
        due("REFUSED", PartnerStack.REFUSED, 2);
    }

    private static void inside(Class<?> c) {
        for (Field f : c.getDeclaredFields()) {
            boolean fine = !Modifier.isStatic(f.getModifiers()) || Modifier.isFinal(f.getModifiers());
            due("static and not final: " + f, fine, true);
        }
        TreeSet<String> face = new TreeSet<>(Arrays.asList("memory", "byteAt", "execute", "needs", "word", "part"));
        for (Method m : c.getDeclaredMethods()) {
            due("parameters of " + m, m.getParameterCount() <= 7, true);
            boolean bearsName = Modifier.isPrivate(m.getModifiers()) && face.contains(m.getName());
            due("a private one with a public name: " + m, bearsName, false);
        }
        for (Class<?> one : c.getDeclaredClasses()) {
            due("static: " + one, Modifier.isStatic(one.getModifiers()), true);
            due("seen from outside: " + one, Modifier.isPublic(one.getModifiers()), false);
            inside(one);
        }
    }

    public static void main(String[] args) {
        face();
        inside(PartnerStack.class);
        System.out.println("the face: " + wrong + " wrong");
        System.exit(wrong == 0 ? 0 : 1);
    }
}
