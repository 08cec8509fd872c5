import java.lang.reflect.Constructor;
import java.lang.reflect.Field;
import java.lang.reflect.Method;
import java.lang.reflect.Modifier;
import java.util.ArrayList;
import java.util.Collections;
import java.util.List;

/** The face is the document's, and nothing else of the class can be seen. */
public final class FaceTest {
    private static final String BOUNDS = "IndexOutOfBoundsException";
    private static final String ARGUMENT = "IllegalArgumentException";
    private static final String STATE = "IllegalStateException";

    public static void main(String[] args) {
        Class<?> face = SkipRows.class;
        Check.due("modifiers of the class", face.getModifiers(), Modifier.PUBLIC | Modifier.FINAL);
        Check.isTrue("the methods are " + methods(face) + ", due are " + due(), methods(face).equals(due()));
        constructors(face);
        fields(face);
        namesOfItsOwn(face, face);
        for (Class<?> inside : face.getDeclaredClasses()) {
            int modifiers = inside.getModifiers();
            boolean hidden = !Modifier.isPublic(modifiers) && !Modifier.isProtected(modifiers);
            Check.isTrue(inside + " is static and not open", Modifier.isStatic(modifiers) && hidden);
            namesOfItsOwn(face, inside);
        }
        Check.end("FaceTest");
    }

    private static void namesOfItsOwn(Class<?> face, Class<?> inside) {
        for (Method method : inside.getDeclaredMethods()) {
            if (inside == face && Modifier.isPublic(method.getModifiers())) {
                continue;
            }
            for (Method open : face.getDeclaredMethods()) {
                boolean same = Modifier.isPublic(open.getModifiers()) && open.getName().equals(method.getName());
                Check.isTrue(method + " bears the name of a method of the face", !same);
            }
        }
    }

    private static List<String> due() {
        List<String> due = new ArrayList<>();
        due.add("int put(int, int) " + ARGUMENT + " " + STATE);
        due.add("int urge(int, int) " + BOUNDS + " " + ARGUMENT + " " + STATE);
        due.add("int revive(int) " + BOUNDS + " " + STATE);
        due.add("int sweep()");
        due.add("int set(int, int) " + BOUNDS + " " + ARGUMENT);
        due.add("int takes(int, int) " + BOUNDS + " " + ARGUMENT);
        due.add("int take(int, int) " + BOUNDS + " " + ARGUMENT);
        due.add("int done(int, int) " + BOUNDS + " " + STATE);
        due.add("int giveBack(int, int) " + BOUNDS + " " + STATE);
        due.add("int renew(int) " + BOUNDS);
        due.add("int pass(int) " + ARGUMENT + " " + STATE);
        due.add("int append(int) " + ARGUMENT + " " + STATE);
        due.add("int clearBuffer()");
        due.add("int firstError()");
        due.add("int putAll() " + ARGUMENT + " " + STATE);
        due.add("int undo() " + STATE);
        due.add("int row(int, int) " + BOUNDS + " " + ARGUMENT);
        due.add("int reader(int, int) " + BOUNDS + " " + ARGUMENT);
        due.add("int group(int, int, int) " + ARGUMENT);
        due.add("int count(int) " + ARGUMENT);
        due.add("int setting(int) " + BOUNDS);
        due.add("int ifTaken(int, int, int) " + BOUNDS + " " + ARGUMENT);
        due.add("int ifPassed(int, int) " + ARGUMENT);
        due.add("int freest()");
        due.add("double fairness()");
        due.add("long digest()");
        Collections.sort(due);
        return due;
    }

    private static List<String> methods(Class<?> face) {
        List<String> seen = new ArrayList<>();
        for (Method method : face.getDeclaredMethods()) {
            if (Modifier.isPrivate(method.getModifiers())) {
                continue;
            }
            Check.due("modifiers of " + method, method.getModifiers(), Modifier.PUBLIC);
            StringBuilder line = new StringBuilder(method.getReturnType() + " " + method.getName() + "(");
            for (int i = 0; i < method.getParameterCount(); i++) {
                line.append(i == 0 ? "" : ", ").append(method.getParameterTypes()[i]);
            }
            line.append(")");
            for (Class<?> thrown : method.getExceptionTypes()) {
                line.append(" ").append(thrown.getSimpleName());
            }
            seen.add(line.toString());
        }
        Collections.sort(seen);
        return seen;
    }

    private static void constructors(Class<?> face) {
        Constructor<?>[] constructors = face.getDeclaredConstructors();
        Check.due("constructors", constructors.length, 1);
        Check.due("modifiers of the constructor", constructors[0].getModifiers(), Modifier.PUBLIC);
        Check.due("parameters of the constructor", constructors[0].getParameterCount(), 0);
    }

    private static void fields(Class<?> face) {
        int open = 0;
        for (Field field : face.getDeclaredFields()) {
            int modifiers = field.getModifiers();
            if (!Modifier.isPrivate(modifiers)) {
                open++;
                Check.isTrue(field + " is NONE", field.getName().equals("NONE") && field.getType() == int.class);
                Check.due("modifiers of NONE", modifiers, Modifier.PUBLIC | Modifier.STATIC | Modifier.FINAL);
            }
            Check.isTrue(field + " is final if it is static", !Modifier.isStatic(modifiers) || Modifier.isFinal(modifiers));
        }
        Check.due("open fields", open, 1);
    }
}
