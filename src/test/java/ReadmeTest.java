import java.io.IOException;
import java.lang.reflect.Method;
import java.lang.reflect.Modifier;
import java.nio.file.Files;
import java.nio.file.Path;
import java.util.ArrayList;
import java.util.List;
import java.util.regex.Matcher;
import java.util.regex.Pattern;
import java.util.stream.Stream;
import javax.tools.ToolProvider;

/**
 * What README.md shows as a use of the class compiles and answers as README.md says: its Java is copied into a
 * program in which each call is compared with the answer behind it.
 */
public final class ReadmeTest {
    private static final String PROGRAM = "ReadmeUse";
    private static final Path README = Path.of("README.md");
    private static final Pattern NEW_OBJECT = Pattern.compile("TorusGates x = new TorusGates\\(\\);");
    /** A call, its number kept or not, and behind it the answer with a word about it or without. */
    private static final Pattern CALL =
        Pattern.compile("(?<kept>int \\w+ = )?(?<call>x\\.\\w+\\([^()]*\\)); +// (?<answer>[\\w-]+)(: .+)?");
    private static final Pattern GATE = Pattern.compile("\\| ([0-9]) \\| .* \\| ([01]) ([01]) ([01]) ([01]) \\|");

    public static void main(String[] args) throws Exception {
        List<String> lines = Files.readAllLines(README);
        List<List<String>> uses = usesIn(lines);
        Check.same("README.md shows uses", true, uses.size() > 0);
        showsEachCall(uses);
        if (compiles(programOf(uses))) {
            Class.forName(PROGRAM).getMethod("run").invoke(null);
        }
        gatesAreAsInTheTable(lines);
        eachTestIsNamed(lines);
        Check.finish();
    }

    /** The lines of each piece of Java. */
    private static List<List<String>> usesIn(List<String> lines) {
        List<List<String>> uses = new ArrayList<>();
        List<String> open = null;
        for (String line : lines) {
            if (line.equals("```java")) {
                open = new ArrayList<>();
            } else if (line.equals("```") && open != null) {
                uses.add(open);
                open = null;
            } else if (open != null) {
                open.add(line);
            }
        }
        return uses;
    }

    private static void showsEachCall(List<List<String>> uses) {
        String shown = uses.toString();
        for (Method method : TorusGates.class.getDeclaredMethods()) {
            if (Modifier.isPublic(method.getModifiers())) {
                Check.same("README.md shows " + method.getName(), true, shown.contains("x." + method.getName() + "("));
            }
        }
    }

    private static String programOf(List<List<String>> uses) {
        StringBuilder program = new StringBuilder("public final class " + PROGRAM + " {\n");
        program.append("public static void run() {\n");
        for (int i = 0; i < uses.size(); i++) {
            program.append("use").append(i).append("();\n");
        }
        program.append("}\n");
        for (int i = 0; i < uses.size(); i++) {
            program.append("private static void use").append(i).append("() {\n");
            for (String line : uses.get(i)) {
                program.append(withCheck(line)).append("\n");
            }
            program.append("}\n");
        }
        return program.append("}\n").toString();
    }

    /** A line that is neither a new object nor a call with its answer would go untested: it is wrong here. */
    private static String withCheck(String line) {
        if (NEW_OBJECT.matcher(line).matches()) {
            return line;
        }
        Matcher m = CALL.matcher(line);
        if (!m.matches()) {
            Check.same("README.md: a call with its answer", true, line);
            return "";
        }
        String answer = m.group("answer");
        String due = answer.endsWith("Exception") ? "throws." + answer : answer;
        String what = "\"README.md: " + m.group("call") + "\", \"" + due + "\", ";
        if (m.group("kept") != null) {
            String name = m.group("kept").split(" ")[1];
            return m.group("kept") + m.group("call") + "; Check.same(" + what + name + ");";
        }
        return "Check.due(" + what + "() -> " + m.group("call") + ");";
    }

    /** Compiled to where this class is, so that the program may use Check. */
    private static boolean compiles(String program) throws IOException {
        String classes = System.getProperty("java.class.path");
        Path file = Path.of(classes).resolveSibling(PROGRAM + ".java");
        Files.writeString(file, program);
        int left = ToolProvider.getSystemJavaCompiler()
            .run(null, null, null, "-Xlint:all", "-Werror", "-cp", classes, "-d", classes, file.toString());
        Check.same("README.md's uses compile: javac", 0, left);
        return left == 0;
    }

    private static void gatesAreAsInTheTable(List<String> lines) {
        int gates = 0;
        for (String line : lines) {
            Matcher m = GATE.matcher(line);
            if (m.matches()) {
                int gate = Integer.parseInt(m.group(1));
                Check.same("README.md: the gates in order", gates, gate);
                gates++;
                for (int values = 0; values < 4; values++) {
                    TorusGates x = new TorusGates();
                    int made = x.gate(gate, x.bit(values >> 1 == 1), x.bit((values & 1) == 1));
                    Check.due("README.md: gate " + gate, m.group(2 + values), () -> x.open(made));
                }
            }
        }
        Check.same("README.md: gates in the table", 8, gates);
    }

    private static void eachTestIsNamed(List<String> lines) throws IOException {
        String text = String.join("\n", lines);
        try (Stream<Path> files = Files.list(Path.of("src/test/java"))) {
            for (Path file : files.toList()) {
                String name = file.getFileName().toString().replace(".java", "");
                if (name.endsWith("Test")) {
                    Check.same("README.md names " + name, true, text.contains("`" + name + "`"));
                }
            }
        }
    }
}
