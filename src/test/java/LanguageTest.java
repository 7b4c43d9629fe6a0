import java.lang.reflect.Constructor;
import java.lang.reflect.Field;
import java.lang.reflect.Method;
import java.lang.reflect.Modifier;
import java.nio.file.Files;
import java.nio.file.Path;
import java.util.ArrayList;
import java.util.List;
import java.util.regex.Matcher;
import java.util.regex.Pattern;

/** Rules of LANGUAGE.md that can be seen in the program's text or in its classes. */
public final class LanguageTest {
    private static final String[] FORBIDDEN = {
        "->", "::", "\\bprotected\\b", "\\bsynchronized\\b", "\\bassert\\b", "\\bfinally\\b", "\\btry\\b",
        "\\bcatch\\b", "\\bstatic \\{", "\\bpackage\\b", "\\bwhile\\b", "\\bhashCode\\b", "\\btoString\\b",
        "\\bequals\\b", "\\bdouble\\b", "\\bfloat\\b", "\\bObject\\b", "\\bRandom\\b", "\\bThread\\b", "Exact\\(",
        "\\bcurrentTimeMillis\\b", "\\bnanoTime\\b", "Arrays\\.(?!fill\\(\\w+, \\w+\\))", "System\\.(?!arraycopy)",
        "Math\\.(?!max|min)", "throw new (?!(IllegalState|IllegalArgument|IndexOutOfBounds)Exception\\(\\))",
    };

    public static void main(String[] args) throws Exception {
        String source = Files.readString(Path.of("src/main/java/StoryStates.java"));
        String code = withoutComments(source);
        for (String word : FORBIDDEN) {
            Check.count("rule against " + word, "[]", found(code.replace("import java.util.Arrays;", ""), word));
        }
        Check.count("imports", "[import java.util.Arrays;]", found(code, "import [^\n]*"));
        Check.count("long methods", "[]", String.valueOf(longMethods(code)));
        Check.count("letters beyond 255", "true", String.valueOf(source.chars().allMatch(c -> c < 128)));
        List<Class<?>> classes = new ArrayList<>(List.of(StoryStates.class.getDeclaredClasses()));
        Check.count("classes inside, twelve at most", "true", String.valueOf(classes.size() <= 12));
        for (Class<?> inside : classes) {
            Check.count(inside + " is static and not public", "true", String.valueOf(
                    Modifier.isStatic(inside.getModifiers()) && !Modifier.isPublic(inside.getModifiers())));
        }
        classes.add(StoryStates.class);
        for (Class<?> each : classes) {
            lookAtMembers(each);
        }
        Check.end("LanguageTest");
    }

    private static String withoutComments(String source) {
        return Pattern.compile("/\\*.*?\\*/", Pattern.DOTALL).matcher(source).replaceAll("").replaceAll("//[^\n]*", "");
    }

    private static String found(String code, String word) {
        List<String> all = new ArrayList<>();
        Matcher matcher = Pattern.compile(word).matcher(code);
        while (matcher.find()) {
            all.add(matcher.group());
        }
        return all.toString();
    }

    /** A method's head stands four or eight blanks deep and ends in a brace, its end is a lone brace there. */
    private static List<String> longMethods(String code) {
        List<String> all = new ArrayList<>();
        String[] lines = code.split("\n");
        for (int i = 0; i < lines.length; i++) {
            String indent = lines[i].replaceAll("\\S.*", "");
            boolean isHead = lines[i].matches(" {4}( {4})?\\S.*\\(.*") && lines[i].endsWith("{");
            for (int j = i; isHead && j < lines.length; j++) {
                if (lines[j].equals(indent + "}")) {
                    if (j - i > 60) {
                        all.add(lines[i].trim());
                    }
                    break;
                }
            }
        }
        return all;
    }

    private static void lookAtMembers(Class<?> each) {
        int fields = 0;
        for (Field field : each.getDeclaredFields()) {
            boolean isStatic = Modifier.isStatic(field.getModifiers());
            fields += isStatic ? 0 : 1;
            Check.count(field + ": static fields are final constants", "true", String.valueOf(!isStatic
                    || Modifier.isFinal(field.getModifiers()) && field.getType().isPrimitive()));
        }
        Check.count(each + ": twenty fields at most", "true", String.valueOf(fields <= 20));
        for (Method method : each.getDeclaredMethods()) {
            Check.count(method + ": seven parameters at most", "true",
                    String.valueOf(method.getParameterCount() <= 7));
        }
        for (Constructor<?> constructor : each.getDeclaredConstructors()) {
            Check.count(constructor + ": no parameters", "0", String.valueOf(constructor.getParameterCount()));
        }
    }
}
