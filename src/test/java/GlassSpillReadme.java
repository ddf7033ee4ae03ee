import java.io.IOException;
import java.lang.reflect.Method;
import java.lang.reflect.Modifier;
import java.nio.file.Files;
import java.nio.file.Path;
import java.util.ArrayList;
import java.util.List;
import java.util.TreeSet;
import java.util.regex.Matcher;
import java.util.regex.Pattern;
import java.util.stream.Stream;
import javax.tools.JavaCompiler;
import javax.tools.ToolProvider;

/** What README.md shows of the class compiles, and the class answers as README.md says. */
public final class GlassSpillReadme {
    private static final Path README = Path.of("README.md"), DOCUMENT = Path.of("../shared/DOC.md");
    private static final Path TESTS = Path.of("src/test/java");
    private static final String GENERATED = "ReadmeShown";
    private static final int NEAR = 0, FAR = 1;

    private static final Pattern BLOCK = Pattern.compile("(?ms)^```java\n(.*?)^```$");
    private static final Pattern NEW_OBJECT = Pattern.compile("GlassSpill x = new GlassSpill\\(\\);");
    private static final Pattern CALL = Pattern.compile(
        "(x\\.(\\w+)\\(.*\\)); +// (-?\\d+|0x[0-9a-f]{3}|[A-Z_]+)(?:: .*)?");
    private static final Pattern ROW_OF_CALL = Pattern.compile(
        "(?m)^\\| `((\\w+)\\([^`]*\\))` \\| [^|]+ \\| ([^|]+) \\|([^|]*)\\|$");
    private static final Pattern ROW_OF_CODE = Pattern.compile("(?m)^\\| ([A-Z_]+) \\| (-\\d) \\| [^|]+ \\|$");
    private static final Pattern ROW_OF_SETTING = Pattern.compile(
        "(?m)^\\| ([A-Z]+) \\| (\\d) \\| (\\d+) (?:to|or) (\\d+) \\| (\\d+) \\|$");

    private static int wrong = 0;

    private static void due(String what, Object got, Object want) {
        if (!got.equals(want)) {
            wrong++;
            System.out.println(what + ": got " + got + ", due is " + want);
        }
    }

    public static void main(String[] args) throws IOException, ReflectiveOperationException {
        String readme = Files.readString(README);
        shown(readme);
        calls(readme, Files.readString(DOCUMENT));
        codes(readme);
        settings(readme);
        testsNamed(readme);
        System.out.println(wrong == 0 ? "all is as README.md says" : wrong + " things are not as README.md says");
        if (wrong != 0) {
            System.exit(1);
        }
    }

    // ---- the Java that is shown

    /** Each block stands in the generated class twice: as it is, and with each answer held against the comment's. */
    private static void shown(String readme) throws IOException, ReflectiveOperationException {
        StringBuilder asItIs = new StringBuilder();
        StringBuilder held = new StringBuilder();
        TreeSet<String> called = new TreeSet<>();
        Matcher block = BLOCK.matcher(readme);
        for (int number = 1; block.find(); number++) {
            asItIs.append("    static void shown").append(number).append("() {\n").append(block.group(1)).append("    }\n");
            held.append("        {\n").append(heldBlock(number, block.group(1), called)).append("        }\n");
        }
        due("the methods that are shown", called, publicMethods());
        String source = "final class " + GENERATED + " {\n"
            + "    private static int wrong = 0;\n"
            + "    private static void due(String call, long got, long want) {\n"
            + "        if (got != want) {\n            wrong++;\n"
            + "            System.out.println(call + \" answered \" + got + \", README.md says \" + want);\n"
            + "        }\n    }\n"
            + asItIs + "    static int wrong() {\n" + held + "        return wrong;\n    }\n}\n";
        if (compiles(source)) {
            Method answers = Class.forName(GENERATED).getDeclaredMethod("wrong");
            answers.setAccessible(true);
            wrong += (int) answers.invoke(null);
        }
    }

    private static String heldBlock(int number, String block, TreeSet<String> called) {
        StringBuilder held = new StringBuilder();
        for (String line : block.split("\n")) {
            Matcher call = CALL.matcher(line);
            if (NEW_OBJECT.matcher(line).matches()) {
                held.append("        ").append(line).append('\n');
            } else if (call.matches()) {
                called.add(call.group(2));
                boolean isCode = Character.isLetter(call.group(3).charAt(0));
                String name = "block " + number + ", " + call.group(1);
                held.append("        due(\"").append(name).append("\", ").append(call.group(1)).append(", ");
                held.append(isCode ? "GlassSpill." : "").append(call.group(3)).append(");\n");
            } else {
                due("a line without an answer in block " + number, line, "");
            }
        }
        return held.toString();
    }

    /** Compiles into the folder that this test was compiled into, so that its class is found there. */
    private static boolean compiles(String source) throws IOException {
        JavaCompiler compiler = ToolProvider.getSystemJavaCompiler();
        if (compiler == null) {
            due("the compiler", "none", "javac of the JDK");
            return false;
        }
        String folder = System.getProperty("java.class.path");
        Path file = Path.of(folder, GENERATED + ".java");
        Files.writeString(file, source);
        int answer = compiler.run(null, null, null, "-Xlint:all", "-Werror", "-cp", folder, "-d", folder, file.toString());
        due("javac of what is shown", answer, 0);
        return answer == 0;
    }

    private static TreeSet<String> publicMethods() {
        TreeSet<String> names = new TreeSet<>();
        for (Method method : GlassSpill.class.getDeclaredMethods()) {
            if (Modifier.isPublic(method.getModifiers())) {
                names.add(method.getName());
            }
        }
        return names;
    }

    // ---- the tables

    /** A call's row tells its head and its errors as the document does; NONE stands with what is returned. */
    private static void calls(String readme, String document) {
        TreeSet<String> told = new TreeSet<>();
        Matcher row = ROW_OF_CALL.matcher(readme);
        while (row.find()) {
            told.add(row.group(2));
            int promise = document.indexOf("\n`int " + row.group(1) + "`: ");
            due(row.group(1) + " stands in the document", promise >= 0, true);
            if (promise >= 0) {
                int end = document.indexOf("\n## ", promise);
                List<String> errors = codesIn(document.substring(promise, end));
                due(row.group(2) + " tells of NONE", row.group(3).contains("NONE"), errors.remove("NONE"));
                due("errors of " + row.group(2), row.group(4).strip(), String.join(", ", errors));
            }
        }
        due("the methods that the table tells", told, publicMethods());
    }

    private static List<String> codesIn(String promise) {
        List<String> codes = new ArrayList<>();
        Matcher code = Pattern.compile("\\b([A-Z_]+) if\\b").matcher(promise);
        while (code.find()) {
            codes.add(code.group(1));
        }
        return codes;
    }

    private static int constant(String name) throws ReflectiveOperationException {
        return GlassSpill.class.getField(name).getInt(null);
    }

    private static void codes(String readme) throws ReflectiveOperationException {
        int told = 0;
        Matcher row = ROW_OF_CODE.matcher(readme);
        while (row.find()) {
            told++;
            due(row.group(1), Integer.parseInt(row.group(2)), constant(row.group(1)));
        }
        due("error codes and NONE", told, 6);
    }

    private static void settings(String readme) throws ReflectiveOperationException {
        int told = 0;
        Matcher row = ROW_OF_SETTING.matcher(readme);
        while (row.find()) {
            told++;
            int setting = Integer.parseInt(row.group(2));
            due(row.group(1), setting, constant(row.group(1)));
            due("first value of " + row.group(1), new GlassSpill().count(setting), Integer.parseInt(row.group(5)));
            int least = Integer.parseInt(row.group(3));
            int greatest = Integer.parseInt(row.group(4));
            for (int value = least - 1; value <= greatest + 1; value++) {
                boolean isInRange = value >= least && value <= greatest;
                int first = Integer.parseInt(row.group(5));
                due(row.group(1) + " to " + value, setTo(setting, value), answerDue(setting, value, isInRange, first));
            }
        }
        due("settings", told, 6);
    }

    /** What a new object answers, with the other distance as far off as it goes. */
    private static int setTo(int setting, int value) {
        GlassSpill x = new GlassSpill();
        if (setting == FAR) {
            x.set(NEAR, 0);
        } else {
            x.set(FAR, 45);
        }
        return x.set(setting, value);
    }

    private static int answerDue(int setting, int value, boolean isInRange, int first) {
        if (!isInRange) {
            return GlassSpill.BAD_VALUE;
        }
        if (setting == FAR) {
            return value > 0 ? first : GlassSpill.NOT_POSSIBLE;
        }
        return setting != NEAR || value < 45 ? first : GlassSpill.NOT_POSSIBLE;
    }

    // ---- the tests

    private static void testsNamed(String readme) throws IOException {
        TreeSet<String> tests = new TreeSet<>();
        try (Stream<Path> files = Files.list(TESTS)) {
            files.forEach(file -> tests.add(file.getFileName().toString().replace(".java", "")));
        }
        TreeSet<String> named = new TreeSet<>();
        Matcher name = Pattern.compile("(?m)^- `(GlassSpill\\w+)`: ").matcher(readme);
        while (name.find()) {
            named.add(name.group(1));
        }
        due("the tests that are named", named, tests);
    }
}
