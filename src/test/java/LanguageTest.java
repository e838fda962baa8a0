import java.io.IOException;
import java.lang.reflect.Constructor;
import java.lang.reflect.Executable;
import java.lang.reflect.Field;
import java.lang.reflect.Modifier;
import java.nio.file.Files;
import java.nio.file.Path;
import java.util.ArrayList;
import java.util.Arrays;
import java.util.HashMap;
import java.util.HashSet;
import java.util.List;
import java.util.Map;
import java.util.Set;
import java.util.regex.Matcher;
import java.util.regex.Pattern;

/**
 * The rules of ../shared/LANGUAGE.md that can be seen in the class or in its text; FaceTest has rule 1's face.
 * Where a rule leaves more than the class uses (lists, texts, try), the test leaves only what the class uses.
 */
public final class LanguageTest {
    private static final Path SOURCE = Path.of("src/main/java/TorusGates.java");
    private static final Set<String> LIBRARY = Set.of("System", "NoSuchElementException",
        "IllegalStateException", "IllegalArgumentException");
    private static final Pattern CLASS_NAME = Pattern.compile("\\b[A-Z][a-zA-Z]*[a-z][a-zA-Z]*\\b");
    private static final Pattern THROW =
        Pattern.compile("throw new (NoSuchElement|Illegal(State|Argument))Exception\\(\"[^\"+]*\"\\);");
    private static final Pattern METHOD = Pattern.compile("^( +)[^ ].*?(\\w+)\\(.*\\{$");
    private static final Pattern CALLED = Pattern.compile("\\b(\\w+)\\(");

    private static final List<Class<?>> CLASSES = new ArrayList<>();
    /** For each method's name the text of all methods of that name. */
    private static final Map<String, String> BODIES = new HashMap<>();

    public static void main(String[] args) throws IOException {
        CLASSES.add(TorusGates.class);
        CLASSES.addAll(Arrays.asList(TorusGates.class.getDeclaredClasses()));
        String text = withoutComments(Files.readString(SOURCE));
        classesInside();
        noLambdas(text);
        fieldTypes();
        libraryAlone(text);
        staticFields(text);
        exceptions(text);
        sizes();
        readMethods(text);
        depthOfCalls();
        Check.finish();
    }

    private static String withoutComments(String text) {
        return text.replaceAll("(?s)/\\*.*?\\*/", "").replaceAll("//[^\n]*", "");
    }

    private static boolean has(String word, String text) {
        return Pattern.compile("\\b" + word).matcher(text).find();
    }

    private static void classesInside() {
        for (Class<?> c : CLASSES.subList(1, CLASSES.size())) {
            int modifiers = c.getModifiers();
            Check.same("rule 1: static: " + c, true, Modifier.isStatic(modifiers));
            boolean shown = Modifier.isPublic(modifiers) || Modifier.isProtected(modifiers);
            Check.same("rule 1: private or package-visible: " + c, false, shown);
            Check.same("rule 1: no classes of its own: " + c, 0, c.getDeclaredClasses().length);
        }
    }

    private static void noLambdas(String text) {
        Check.same("rule 2: a lambda", false, text.contains("->"));
        Check.same("rule 2: a method reference", false, text.contains("::"));
    }

    private static void fieldTypes() {
        for (Class<?> c : CLASSES) {
            for (Field f : c.getDeclaredFields()) {
                Class<?> type = f.getType();
                boolean table = type == int[][].class;
                Class<?> one = type.isArray() ? type.getComponentType() : type;
                boolean number = one.isPrimitive() && one != double.class && one != float.class;
                Check.same("rule 3: the type of " + f, true, table || number || CLASSES.contains(one));
            }
        }
    }

    private static void libraryAlone(String text) {
        Set<String> own = new HashSet<>(LIBRARY);
        for (Class<?> c : CLASSES) {
            own.add(c.getSimpleName());
        }
        String code = text.replace("import java.util.NoSuchElementException;", "").replaceAll("\"[^\"]*\"", "\"\"");
        Matcher words = CLASS_NAME.matcher(code);
        while (words.find()) {
            Check.same("rule 4: " + words.group(), true, own.contains(words.group()));
        }
        Check.same("rule 4: an import, or a name in full", false, code.contains("import ") || code.contains("java."));
        String rest = code.replace("System.arraycopy(", "");
        Check.same("rule 4: of System arraycopy alone", false, rest.contains("System"));
    }

    private static void staticFields(String text) {
        Check.same("rule 5: a static initialiser block", false, has("static \\{", text));
        Set<Class<?>> allowed = Set.of(int.class, long.class, boolean.class, char.class, String.class, int[].class);
        for (Class<?> c : CLASSES) {
            for (Field f : c.getDeclaredFields()) {
                if (Modifier.isStatic(f.getModifiers())) {
                    Check.same("rule 5: final: " + f, true, Modifier.isFinal(f.getModifiers()));
                    Check.same("rule 5: the type of " + f, true, allowed.contains(f.getType()));
                }
            }
        }
    }

    private static void exceptions(String text) {
        Check.same("rule 6: another form of throw", false, has("throw\\b", THROW.matcher(text).replaceAll("")));
        for (String word : new String[] {"try", "catch", "finally", "synchronized", "assert", "instanceof"}) {
            Check.same("rule 6: " + word, false, has(word + "\\b", text));
        }
        for (Class<?> c : CLASSES) {
            for (Constructor<?> made : c.getDeclaredConstructors()) {
                Check.same("rule 6: a constructor throws: " + made, 0, made.getExceptionTypes().length);
            }
        }
    }

    private static void sizes() {
        Check.same("rule 11: at most twelve classes", true, CLASSES.size() <= 12);
        for (Class<?> c : CLASSES) {
            int fields = 0;
            for (Field f : c.getDeclaredFields()) {
                fields += Modifier.isStatic(f.getModifiers()) ? 0 : 1;
            }
            Check.same("rule 11: at most twenty fields: " + c, true, fields <= 20);
            List<Executable> methods = new ArrayList<>(Arrays.asList(c.getDeclaredMethods()));
            methods.addAll(Arrays.asList(c.getDeclaredConstructors()));
            for (Executable m : methods) {
                Check.same("rule 11: at most seven parameters: " + m, true, m.getParameterCount() <= 7);
            }
        }
    }

    /** A method ends where a brace stands as far in as the method does. */
    private static void readMethods(String text) {
        List<String> lines = text.replaceAll("\\)\\s+throws", ") throws").lines().toList();
        for (int i = 0; i < lines.size(); i++) {
            Matcher m = METHOD.matcher(lines.get(i));
            if (m.matches() && !lines.get(i).matches(" *(for|if|switch|while|} else) .*")) {
                int end = lines.subList(i, lines.size()).indexOf(m.group(1) + "}");
                Check.same("rule 11: at most sixty lines: " + m.group(2), true, end > 0 && end <= 60);
                String body = String.join("\n", lines.subList(i + 1, i + end));
                BODIES.merge(m.group(2), body, (one, other) -> one + "\n" + other);
            }
        }
        Check.same("each call of the face is found in the text", true, BODIES.keySet().containsAll(
            List.of("key", "bit", "drop", "not", "blur", "pile", "gate", "choose", "open", "bound", "within", "line",
                "play", "clear", "count")));
    }

    private static void depthOfCalls() {
        for (String name : BODIES.keySet()) {
            Check.same("rule 11: calls at most eight deep: " + name, true, depthOf(name, 1) <= 8);
        }
    }

    /** Methods of one name are taken as one, which makes the calls seem deeper, not less deep. */
    private static int depthOf(String name, int open) {
        int deepest = open;
        Matcher called = CALLED.matcher(BODIES.get(name));
        while (called.find() && deepest <= 40) {
            if (BODIES.containsKey(called.group(1))) {
                deepest = Math.max(deepest, depthOf(called.group(1), open + 1));
            }
        }
        return deepest;
    }
}
