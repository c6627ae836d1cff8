import java.lang.reflect.Constructor;
import java.lang.reflect.Field;
import java.lang.reflect.Method;
import java.lang.reflect.Modifier;
import java.util.Arrays;
import java.util.TreeSet;
import java.util.stream.Collectors;

/** The public face of the document, and rule 1 of LANGUAGE.md: nothing else is to be seen. */
public final class FaceTest {
    private static final String ARGUMENT = " IllegalArgumentException";
    private static final String STATE = " IllegalStateException";
    private static final String ELEMENT = " NoSuchElementException";
    private static final String INDEX = " IndexOutOfBoundsException";
    private static final String[] FACE = {
        "boolean kind(int,boolean)", "boolean set(int,int)", "boolean use(int,int)", "int release(int)",
        "boolean palette(int,int,int)", "int record(int,int,boolean)" + ARGUMENT + STATE,
        "int update(int,int)" + ELEMENT + STATE, "int delete(int,int,boolean)" + ELEMENT + STATE,
        "int block(int,int,boolean)" + ELEMENT + STATE, "boolean times(int,int,int,int)",
        "boolean delays(int,int,int,int)", "int look(int,int,int)" + ELEMENT + INDEX,
        "int source(int,int,int)" + ELEMENT + INDEX, "int cue(int,int,int)" + INDEX,
        "boolean assign(int,int)", "int go(int,boolean,int)" + ARGUMENT + ELEMENT,
        "boolean master(int,int)", "int out(int,int)" + ARGUMENT, "int playback(int,int)" + INDEX,
        "int count(int)"
    };

    public static void main(String[] args) throws Exception {
        Class<?> desk = LightingDesk.class;
        Check.says("public final class LightingDesk");
        Check.same("public final", Modifier.toString(desk.getModifiers()));
        Check.says("public static final int NONE = -1;");
        Check.is(-1, () -> LightingDesk.NONE);
        Check.same("public static final int LightingDesk.NONE", desk.getField("NONE").toGenericString());
        Check.says("The public face");
        methodsAreTheFace(desk);
        membersAreHidden(desk);
        nestedClassesAreStatic(desk);
        Check.end();
    }

    private static void methodsAreTheFace(Class<?> desk) {
        TreeSet<String> seen = new TreeSet<>();
        for (Method m : desk.getDeclaredMethods()) {
            if (!Modifier.isPrivate(m.getModifiers())) {
                Check.same("public", Modifier.toString(m.getModifiers()));
                String parameters = Arrays.stream(m.getParameterTypes())
                        .map(Class::getName).collect(Collectors.joining(",", "(", ")"));
                String thrown = Arrays.stream(m.getExceptionTypes())
                        .map(e -> " " + e.getSimpleName()).collect(Collectors.joining());
                seen.add(m.getReturnType() + " " + m.getName() + parameters + thrown);
            }
        }
        Check.same(new TreeSet<>(Arrays.asList(FACE)).toString(), seen.toString());
        for (Method m : desk.getDeclaredMethods()) {
            boolean shared = seen.stream().anyMatch(s -> s.contains(" " + m.getName() + "("));
            Check.same(m + " public " + shared, m + " public " + Modifier.isPublic(m.getModifiers()));
        }
    }

    private static void membersAreHidden(Class<?> desk) {
        Constructor<?>[] constructors = desk.getDeclaredConstructors();
        Check.is(1, () -> constructors.length);
        Check.same("public", Modifier.toString(constructors[0].getModifiers()));
        Check.is(0, () -> constructors[0].getParameterCount());
        for (Field f : desk.getDeclaredFields()) {
            String due = f.getName().equals("NONE") ? "public" : "private";
            Check.same(f.getName() + " " + due, f.getName() + " " + Modifier.toString(f.getModifiers()).split(" ")[0]);
        }
    }

    private static void nestedClassesAreStatic(Class<?> desk) {
        for (Class<?> c : desk.getDeclaredClasses()) {
            Check.same("private static final", Modifier.toString(c.getModifiers()));
            for (Field f : c.getDeclaredFields()) {
                Check.same(f + " static false", f + " static " + Modifier.isStatic(f.getModifiers()));
            }
        }
    }
}
