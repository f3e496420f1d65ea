import java.lang.reflect.Constructor;
import java.lang.reflect.Field;
import java.lang.reflect.Method;
import java.lang.reflect.Modifier;
import java.util.Arrays;
import java.util.Set;
import java.util.TreeSet;
import java.util.stream.Collectors;

/** The public face: every constant, the constructor and every method of the document, and nothing else. */
public final class FaceTest {
    private static final Due DUE = new Due();
    private static final Set<String> METHODS = new TreeSet<>(Arrays.asList(
        "int at(long)", "int begin(int)", "int child(int,int)", "int save(int,long,int)", "int take(int,int)",
        "int commit(int,int)", "int give(int)", "int drop(int)", "int rule(int,int)", "int keeps(int)", "int prune(boolean)",
        "int sweep()", "int step(int)", "int share(int)", "int cut(int)", "int open()", "int follow(int,int)", "int count(int)",
        "int block(int,int)", "long key(int)", "int pack(int,int)", "int snapshot(int,int)", "long time(int)",
        "int saver(int,int)", "int swept(int)", "int calendar(long,int)", "int mirrored(int,int)", "boolean has(int,int)", "int audit()"));

    public static void main(String[] args) throws Exception {
        DUE.is("NONE", SafeSweeps.NONE, -1);
        DUE.is("UNKNOWN", SafeSweeps.UNKNOWN, -101);
        DUE.is("OUTSIDE", SafeSweeps.OUTSIDE, -102);
        DUE.is("STATE", SafeSweeps.STATE, -103);
        DUE.is("ROOM", SafeSweeps.ROOM, -104);
        DUE.is("LOST", SafeSweeps.LOST, -105);
        DUE.is("DOWN", SafeSweeps.DOWN, -106);
        Class<?> face = SafeSweeps.class;
        DUE.is("public and final", face.getModifiers() & (Modifier.PUBLIC | Modifier.FINAL), Modifier.PUBLIC | Modifier.FINAL);
        methods(face);
        fields(face);
        Constructor<?>[] constructors = face.getDeclaredConstructors();
        DUE.is("constructors", constructors.length, 1);
        DUE.is("public constructor of an int", Modifier.isPublic(face.getDeclaredConstructor(int.class).getModifiers()), true);
        for (Class<?> inside : face.getDeclaredClasses()) {
            DUE.is(inside + " is private", Modifier.isPrivate(inside.getModifiers()), true);
            DUE.is(inside + " is static", Modifier.isStatic(inside.getModifiers()), true);
            namesInside(inside);
        }
        DUE.end();
    }

    private static String told(Method method) {
        String types = Arrays.stream(method.getParameterTypes()).map(Class::getName).collect(Collectors.joining(","));
        return method.getReturnType().getName() + " " + method.getName() + "(" + types + ")";
    }

    private static void methods(Class<?> face) {
        Set<String> open = new TreeSet<>();
        Set<String> names = new TreeSet<>();
        for (Method method : face.getDeclaredMethods()) {
            if (!Modifier.isPrivate(method.getModifiers())) {
                open.add(told(method));
                names.add(method.getName());
                DUE.is(method + " is public", Modifier.isPublic(method.getModifiers()), true);
                DUE.is(method + " is static", Modifier.isStatic(method.getModifiers()), false);
            }
        }
        DUE.is("the methods " + open, open.equals(METHODS), true);
        for (Method method : face.getDeclaredMethods()) {
            boolean hidden = Modifier.isPrivate(method.getModifiers());
            DUE.is(method + " bears the name of a public one", hidden && names.contains(method.getName()), false);
        }
    }

    private static void fields(Class<?> face) {
        int open = 0;
        for (Field field : face.getDeclaredFields()) {
            open += Modifier.isPrivate(field.getModifiers()) ? 0 : 1;
        }
        DUE.is("fields that are not private", open, 7);
    }

    private static void namesInside(Class<?> inside) {
        Set<String> names = METHODS.stream().map(one -> one.replaceAll("^\\w+ |\\(.*", "")).collect(Collectors.toSet());
        for (Method method : inside.getDeclaredMethods()) {
            DUE.is(method + " bears the name of a public one", names.contains(method.getName()), false);
        }
    }
}
