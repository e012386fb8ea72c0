import java.lang.reflect.Constructor;
import java.lang.reflect.Field;
import java.lang.reflect.Method;
import java.lang.reflect.Modifier;
import java.util.ArrayList;
import java.util.Arrays;
import java.util.HashSet;
import java.util.List;
import java.util.Set;
import java.util.stream.Collectors;

/** The public face: just the document's members, and no private method with the name of a public one. */
public final class FaceTest {
    private static final String[] METHODS = {
        "int begin(int, int) IllegalArgumentException",
        "int addMicrophone(int, int) IllegalArgumentException IllegalStateException",
        "int setClock(int, int) IndexOutOfBoundsException IllegalArgumentException",
        "int addWall(int, int, int) IllegalArgumentException IllegalStateException",
        "int addScreen(int, int, int, int) IllegalArgumentException IllegalStateException",
        "int remove(int, int) IllegalArgumentException IndexOutOfBoundsException",
        "int set(int, int) IllegalArgumentException",
        "int setS(int) IllegalArgumentException",
        "int click(int, int, int) IllegalArgumentException IllegalStateException",
        "int calibrate(int, int, int) IllegalArgumentException IllegalStateException",
        "int note(int) IndexOutOfBoundsException",
        "int heard(int, int) IndexOutOfBoundsException IllegalArgumentException",
        "int arrivals(int, int, int) IndexOutOfBoundsException IllegalArgumentException",
        "int arrival(int, int, int, int, int) IndexOutOfBoundsException IllegalArgumentException",
        "int delay(int, int) IndexOutOfBoundsException IllegalArgumentException",
        "int expected(int, int, int) IndexOutOfBoundsException IllegalArgumentException",
        "int votes(int) IndexOutOfBoundsException",
        "int error(int) IndexOutOfBoundsException",
        "int found()",
        "double middle(boolean)",
        "int blame(int) IndexOutOfBoundsException",
        "int suspect()",
        "int foundWithout(int) IndexOutOfBoundsException",
        "int whole(int) IllegalArgumentException",
        "int part(int, int, int) IllegalArgumentException IndexOutOfBoundsException",
        "int type(int) IllegalArgumentException IllegalStateException",
        "int clearCommands()",
        "int runCommands()",
        "int stop()",
        "int undo() IllegalStateException",
        "long digest()",
    };

    public static void main(String[] args) {
        Class<?> face = ClickBench.class;
        Check.due("modifiers", Modifier.PUBLIC | Modifier.FINAL, face.getModifiers());
        Check.due("NONE", -1000000000L, ClickBench.NONE);
        methods(face);
        constructors(face);
        fields(face);
        privateNames(face);
        Check.finish();
    }

    private static void methods(Class<?> face) {
        Set<String> due = new HashSet<>(Arrays.asList(METHODS));
        Set<String> got = new HashSet<>();
        for (Method method : face.getDeclaredMethods()) {
            int modifiers = method.getModifiers();
            if (!Modifier.isPrivate(modifiers) && !method.isSynthetic()) {
                Check.due(method + " is public and no more", Modifier.PUBLIC, modifiers);
                got.add(signature(method));
            }
        }
        for (String line : due) {
            Check.due("stands: " + line, 1, got.contains(line) ? 1 : 0);
        }
        for (String line : got) {
            Check.due("is promised: " + line, 1, due.contains(line) ? 1 : 0);
        }
    }

    private static String signature(Method method) {
        StringBuilder line = new StringBuilder();
        line.append(method.getReturnType().getName()).append(' ').append(method.getName()).append('(');
        line.append(names(method.getParameterTypes(), ", ")).append(')');
        if (method.getExceptionTypes().length > 0) {
            line.append(' ').append(names(method.getExceptionTypes(), " "));
        }
        return line.toString();
    }

    private static String names(Class<?>[] types, String between) {
        return Arrays.stream(types).map(Class::getSimpleName).collect(Collectors.joining(between));
    }

    private static void constructors(Class<?> face) {
        Constructor<?>[] all = face.getDeclaredConstructors();
        Check.due("constructors", 1, all.length);
        Check.due("the constructor is public", Modifier.PUBLIC, all[0].getModifiers());
        Check.due("the constructor's arguments", 0, all[0].getParameterCount());
    }

    private static void fields(Class<?> face) {
        for (Field field : face.getDeclaredFields()) {
            boolean isFaces = field.getName().equals("NONE");
            int due = isFaces ? Modifier.PUBLIC : Modifier.PRIVATE;
            int sight = field.getModifiers() & (Modifier.PUBLIC | Modifier.PROTECTED | Modifier.PRIVATE);
            Check.due("sight of " + field.getName(), due, sight);
        }
    }

    private static void privateNames(Class<?> face) {
        Set<String> taken = new HashSet<>();
        for (String line : METHODS) {
            taken.add(line.substring(line.indexOf(' ') + 1, line.indexOf('(')));
        }
        List<Class<?>> classes = new ArrayList<>(Arrays.asList(face.getDeclaredClasses()));
        for (Class<?> inside : classes) {
            Check.due(inside + " is static", 1, Modifier.isStatic(inside.getModifiers()) ? 1 : 0);
            Check.due(inside + " is not in sight", 0, inside.getModifiers() & (Modifier.PUBLIC | Modifier.PROTECTED));
        }
        classes.add(face);
        for (Class<?> holder : classes) {
            for (Method method : holder.getDeclaredMethods()) {
                boolean isPublic = Modifier.isPublic(method.getModifiers());
                boolean clashes = !isPublic && taken.contains(method.getName());
                Check.due(method + " bears the name of a public one", 0, clashes ? 1 : 0);
            }
        }
    }
}
