import java.lang.reflect.Constructor;
import java.lang.reflect.Field;
import java.lang.reflect.Method;
import java.lang.reflect.Modifier;
import java.util.Arrays;
import java.util.TreeSet;

/** The class has the document's face, and no other member that can be seen. */
public final class FaceTest {
    private static final String[] FACE = {
        "void clear()",
        "int room() throws IllegalStateException",
        "void exit(int,int,int,int) throws IndexOutOfBoundsException,IllegalArgumentException",
        "int thing(int,int) throws IndexOutOfBoundsException,IllegalArgumentException,IllegalStateException",
        "int number(int,int) throws IllegalArgumentException,IllegalStateException",
        "int ending(boolean) throws IllegalStateException",
        "int rule(int,int,int,int) throws IllegalArgumentException,IllegalStateException",
        "void condition(int,int,int,int) throws IndexOutOfBoundsException,IllegalArgumentException,IllegalStateException",
        "void effect(int,int,int,int) throws IndexOutOfBoundsException,IllegalArgumentException,IllegalStateException",
        "void walker(int,int,int,int) throws IndexOutOfBoundsException,IllegalStateException",
        "void timer(int,int) throws IndexOutOfBoundsException,IllegalArgumentException,IllegalStateException",
        "void begin() throws IllegalStateException",
        "int command(int,int,int) throws IllegalArgumentException,IllegalStateException",
        "int said(int)",
        "boolean undo()",
        "int state(int,int) throws IndexOutOfBoundsException,IllegalArgumentException,IllegalStateException",
        "int explore(int) throws IllegalStateException,IllegalArgumentException",
        "int reach(int,boolean) throws IllegalStateException,IndexOutOfBoundsException",
        "int way(int,int,int) throws IllegalStateException,IndexOutOfBoundsException",
        "int study(int,int) throws IllegalStateException,IllegalArgumentException",
    };

    public static void main(String[] args) {
        Class<?> face = StoryStates.class;
        Check.due("public and final", "public final", () -> Modifier.toString(face.getModifiers()));
        Check.due("NONE", -1, () -> StoryStates.NONE);
        Check.due("ANY", -2, () -> StoryStates.ANY);
        Check.due("methods", new TreeSet<>(Arrays.asList(FACE)), () -> methodsOf(face));
        Check.due("constructors", "[public StoryStates()]", () -> constructorsOf(face));
        Check.due("fields", "[ANY, NONE]", () -> openFieldsOf(face));
        Check.due("names used twice", "[]", () -> namesUsedTwice(face));
        Check.end("FaceTest");
    }

    static TreeSet<String> methodsOf(Class<?> face) {
        TreeSet<String> all = new TreeSet<>();
        for (Method method : face.getDeclaredMethods()) {
            if (!Modifier.isPrivate(method.getModifiers()) && !method.isSynthetic()) {
                all.add(signatureOf(method));
            }
        }
        return all;
    }

    private static String signatureOf(Method method) {
        String text = method.getReturnType() + " " + method.getName() + "(" + names(method.getParameterTypes()) + ")";
        String thrown = names(method.getExceptionTypes());
        return thrown.isEmpty() ? text : text + " throws " + thrown;
    }

    private static String names(Class<?>[] types) {
        StringBuilder text = new StringBuilder();
        for (Class<?> type : types) {
            text.append(text.length() == 0 ? "" : ",").append(type.getSimpleName());
        }
        return text.toString();
    }

    private static TreeSet<String> constructorsOf(Class<?> face) {
        TreeSet<String> all = new TreeSet<>();
        for (Constructor<?> constructor : face.getDeclaredConstructors()) {
            all.add(constructor.toString());
        }
        return all;
    }

    private static TreeSet<String> openFieldsOf(Class<?> face) {
        TreeSet<String> all = new TreeSet<>();
        for (Field field : face.getDeclaredFields()) {
            if (!Modifier.isPrivate(field.getModifiers())) {
                all.add(field.getName());
            }
        }
        return all;
    }

    /** Names of the face that a private method, or a method of a class inside, bears too. */
    private static TreeSet<String> namesUsedTwice(Class<?> face) {
        TreeSet<String> open = new TreeSet<>();
        for (Method method : face.getMethods()) {
            open.add(method.getName());
        }
        TreeSet<String> hidden = new TreeSet<>();
        for (Method method : face.getDeclaredMethods()) {
            if (!Modifier.isPublic(method.getModifiers())) {
                hidden.add(method.getName());
            }
        }
        for (Class<?> inside : face.getDeclaredClasses()) {
            for (Method method : inside.getDeclaredMethods()) {
                hidden.add(method.getName());
            }
        }
        hidden.retainAll(open);
        return hidden;
    }
}
