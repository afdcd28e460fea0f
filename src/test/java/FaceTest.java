import java.lang.reflect.Constructor;
import java.lang.reflect.Field;
import java.lang.reflect.Member;
import java.lang.reflect.Method;
import java.lang.reflect.Modifier;
import java.util.Set;
import java.util.TreeSet;

/** The public face is the document's, and no more. */
final class FaceTest {
    private static final Set<String> METHODS = Set.of(
            "int room()", "int door(int,int)", "int exit(int,int,int)", "int width(int,int,int)",
            "int turn(int,int)", "int region(int,int,boolean)", "int lock(int,int,boolean)",
            "int thing(int,int,int)", "int floats(int,int)", "int being(int)", "int act(int,int,int)",
            "int handle(int,int,int)", "int leave(int)", "int go(int,int)", "int push(int,int,int)",
            "int back(int)", "int follow(int,int)", "int route(int,int,int)", "int way(int,int)",
            "int leads(int,int)", "int state(int)", "int thingIs(int,int)", "int beingIs(int,int)",
            "int news(int,int)", "boolean here(int,int,int)", "int count(int)");

    public static void main(String[] args) {
        Class<?> face = DoorsLocks.class;
        Check.due("public and final", face.getModifiers(), Modifier.PUBLIC | Modifier.FINAL);
        Check.due("without a package", face.getPackageName().isEmpty(), true);
        Check.due("of no class above it", face.getSuperclass() == Object.class, true);
        Check.due("of no interface", face.getInterfaces().length, 0);
        checkConstructors(face);
        checkMethods(face);
        checkConstants(face);
        checkClassesInside(face);
        Check.end();
    }

    private static void checkConstructors(Class<?> face) {
        Constructor<?>[] constructors = face.getDeclaredConstructors();
        Check.due("constructors", constructors.length, 1);
        Check.due("public constructor", constructors[0].getModifiers(), Modifier.PUBLIC);
        Check.due("its parameters", constructors[0].getParameterCount(), 0);
        Check.due("its exceptions", constructors[0].getExceptionTypes().length, 0);
    }

    private static void checkMethods(Class<?> face) {
        Set<String> shown = new TreeSet<>();
        Set<String> publicNames = new TreeSet<>();
        for (Method method : face.getDeclaredMethods()) {
            if (isShown(method)) {
                shown.add(signature(method));
                publicNames.add(method.getName());
                Check.due("public, of an object: " + method, method.getModifiers(), Modifier.PUBLIC);
                Check.due("without exceptions: " + method, method.getExceptionTypes().length, 0);
            }
        }
        Check.due("the methods " + shown, shown.equals(METHODS), true);
        for (Method method : face.getDeclaredMethods()) {
            if (!isShown(method)) {
                Check.due("a name of its own: " + method, publicNames.contains(method.getName()), false);
            }
        }
    }

    private static void checkConstants(Class<?> face) {
        Set<String> shown = new TreeSet<>();
        for (Field field : face.getDeclaredFields()) {
            if (isShown(field)) {
                shown.add(field.getName());
                Check.due("an int: " + field, field.getType() == int.class, true);
                int modifiers = Modifier.PUBLIC | Modifier.STATIC | Modifier.FINAL;
                Check.due("public static final: " + field, field.getModifiers(), modifiers);
            }
        }
        Check.due("the constants " + shown, shown.equals(Set.of("BAD", "FULL")), true);
        Check.due("BAD", DoorsLocks.BAD, -1);
        Check.due("FULL", DoorsLocks.FULL, -2);
    }

    private static void checkClassesInside(Class<?> face) {
        for (Class<?> inside : face.getDeclaredClasses()) {
            Check.due("private: " + inside, Modifier.isPrivate(inside.getModifiers()), true);
            Check.due("static: " + inside, Modifier.isStatic(inside.getModifiers()), true);
        }
    }

    private static boolean isShown(Member member) {
        return !Modifier.isPrivate(member.getModifiers());
    }

    private static String signature(Method method) {
        StringBuilder text = new StringBuilder();
        text.append(method.getReturnType()).append(' ').append(method.getName()).append('(');
        String between = "";
        for (Class<?> type : method.getParameterTypes()) {
            text.append(between).append(type);
            between = ",";
        }
        return text.append(')').toString();
    }
}
