import java.lang.reflect.InvocationTargetException;
import java.lang.reflect.Method;

/**
 * Goes through the document from its first word to its last, with calls for what each sentence says. Calls are
 * written as they are made, apart by semicolons, each with what is due:
 * "room = 0; begin; command 6 -1 -1 says 106; exit 0 4 0 -1 throws Argument".
 */
final class Walk {
    private final String document;
    private int at = 0;

    Walk(String document) {
        this.document = flat(document);
    }

    private static String flat(String text) {
        return text.replaceAll("\\s+", " ").trim();
    }

    /** The document's next words are these; the calls behind this are about them. */
    void words(String words) {
        pass(words);
        Check.sentence(words);
    }

    /** The document's next words are these, and say nothing that a call could show. */
    void pass(String words) {
        Check.sentence("");
        int end = Math.min(document.length(), at + words.length());
        Check.count("the document's next words", words, document.substring(at, end));
        at = Math.min(document.length(), end + 1);
    }

    /** All words from here up to these, and these. */
    String passTo(String last) {
        int from = at;
        int found = document.indexOf(last, at);
        Check.count("words ahead: " + last, "true", String.valueOf(found >= 0));
        at = found < 0 ? at : Math.min(document.length(), found + last.length() + 1);
        return document.substring(from, Math.max(from, at - 1));
    }

    void end() {
        Check.sentence("");
        Check.count("words of the document that were not gone through", "", document.substring(at));
    }

    /** Makes the calls on a new object. */
    static StoryStates run(String... calls) {
        StoryStates s = new StoryStates();
        go(s, calls);
        return s;
    }

    static void go(StoryStates s, String... calls) {
        String before = "";
        for (String call : String.join("; ", calls).split(";")) {
            before += (before.isEmpty() ? "" : "; ") + call.trim();
            make(s, call.trim(), before);
        }
    }

    private static void make(StoryStates s, String call, String told) {
        if (call.contains(" says ")) {
            String[] texts = call.substring(call.indexOf(" says ") + 6).split(" ");
            make(s, call.substring(0, call.indexOf(" says ")) + " = " + texts.length, told);
            for (int i = 0; i <= texts.length; i++) {
                String due = i < texts.length ? texts[i] : "-1";
                Check.count(told + "; said " + i, due, answer(s, ("said " + i).split(" ")));
            }
        } else if (call.contains(" throws ")) {
            String[] parts = call.split(" throws ");
            Check.count(told, nameOf(parts[1]), answer(s, parts[0].split(" ")));
        } else if (call.contains(" = ")) {
            String[] parts = call.split(" = ");
            Check.count(told, parts[1], answer(s, parts[0].split(" ")));
        } else {
            String got = answer(s, call.split(" "));
            Check.count(told, "true", got.startsWith("throws.") ? got : "true");
        }
    }

    private static String nameOf(String exception) {
        switch (exception) {
            case "Index": return Check.INDEX;
            case "Argument": return Check.ARGUMENT;
            case "State": return Check.STATE;
            default: throw new IllegalArgumentException(exception);
        }
    }

    private static String answer(StoryStates s, String[] call) {
        Method method = methodOf(call[0]);
        Object[] arguments = new Object[call.length - 1];
        for (int i = 0; i < arguments.length; i++) {
            boolean isBoolean = method.getParameterTypes()[i] == boolean.class;
            arguments[i] = isBoolean ? (Object) Boolean.valueOf(call[i + 1]) : (Object) Integer.valueOf(call[i + 1]);
        }
        try {
            return String.valueOf(method.invoke(s, arguments));
        } catch (InvocationTargetException e) {
            return "throws." + e.getCause().getClass().getSimpleName();
        } catch (IllegalAccessException e) {
            throw new IllegalStateException(e);
        }
    }

    private static Method methodOf(String name) {
        for (Method method : StoryStates.class.getMethods()) {
            if (method.getName().equals(name) && method.getDeclaringClass() == StoryStates.class) {
                return method;
            }
        }
        throw new IllegalArgumentException("no call " + name);
    }
}
