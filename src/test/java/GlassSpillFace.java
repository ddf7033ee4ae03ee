import java.io.IOException;
import java.lang.reflect.Constructor;
import java.lang.reflect.Field;
import java.lang.reflect.Method;
import java.lang.reflect.Modifier;
import java.nio.file.Files;
import java.nio.file.Path;
import java.util.Arrays;
import java.util.TreeSet;
import java.util.regex.Matcher;
import java.util.regex.Pattern;

/** The class has the document's face and nothing beside it, and its source keeps to rules of LANGUAGE.md. */
public final class GlassSpillFace {
    private static final String SOURCE = "src/main/java/GlassSpill.java";
    private static final String[] METHODS = {
        "int set(int,int)", "int screen(int)", "int paint(boolean,int,int)", "int fill(boolean,int,int,int)",
        "int read(boolean,int)", "int mark(int,boolean)", "int keep()", "int pixel(int,int)", "int count(int)",
        "int row(int,int)", "int bestScreen(int)", "int leastNear(int)", "int ifSet(int,int)", "int bestShare(int,int)",
        "int put(long)", "int wipe()", "int fault()", "int undo()", "int save(int)", "int restore(int)",
    };
    private static final String[] CONSTANTS = {
        "NO_SUCH=-1", "BAD_VALUE=-2", "BAD_TEXT=-3", "TOO_MANY=-4", "NOT_POSSIBLE=-5", "NONE=-6",
        "NEAR=0", "FAR=1", "BODY=2", "HAIR=3", "GLASS=4", "CLOSE=5",
    };
    private static final String[] FORBIDDEN = {
        "\\b(throw|throws|try|catch|synchronized|assert|import|package|native|volatile|transient)\\b", "->", "::",
        "\\.\\.\\.", "\\b(protected|float|double|var|Object|System\\.(?!arraycopy)\\w+)\\b", "\"", "Exact\\b",
        "\\b(Integer|Long|Math)\\.[A-Z]",
        "[^\\x00-\\x7f]",
    };

    private static int wrong = 0;

    private static void due(String what, Object got, Object want) {
        if (!got.equals(want)) {
            wrong++;
            System.out.println(what + " is " + got + ", due is " + want);
        }
    }

    public static void main(String[] args) throws IOException, IllegalAccessException {
        members();
        classesInside();
        source();
        System.out.println(wrong == 0 ? "the face is as due" : wrong + " things are not as due");
        if (wrong != 0) {
            System.exit(1);
        }
    }

    private static void members() throws IllegalAccessException {
        TreeSet<String> methods = new TreeSet<>();
        for (Method method : GlassSpill.class.getDeclaredMethods()) {
            if (!Modifier.isPrivate(method.getModifiers())) {
                String parameters = Arrays.toString(method.getParameterTypes()).replaceAll("[\\[\\] ]", "");
                methods.add(method.getReturnType() + " " + method.getName() + "(" + parameters + ")");
            }
        }
        due("the methods", methods, new TreeSet<>(Arrays.asList(METHODS)));
        TreeSet<String> constants = new TreeSet<>();
        for (Field field : GlassSpill.class.getDeclaredFields()) {
            if (!Modifier.isPrivate(field.getModifiers())) {
                due("modifiers of " + field.getName(), Modifier.toString(field.getModifiers()), "public static final");
                constants.add(field.getName() + "=" + field.getInt(null));
            }
        }
        due("the constants", constants, new TreeSet<>(Arrays.asList(CONSTANTS)));
        Constructor<?>[] constructors = GlassSpill.class.getDeclaredConstructors();
        due("the constructors", Arrays.toString(constructors), "[public GlassSpill()]");
        due("the class", Modifier.toString(GlassSpill.class.getModifiers()), "public final");
    }

    private static void classesInside() {
        TreeSet<String> names = new TreeSet<>();
        for (Method method : GlassSpill.class.getDeclaredMethods()) {
            if (Modifier.isPublic(method.getModifiers())) {
                names.add(method.getName());
            }
        }
        for (Method method : GlassSpill.class.getDeclaredMethods()) {
            boolean isPrivate = Modifier.isPrivate(method.getModifiers());
            due("name of a public one for " + method, isPrivate && names.contains(method.getName()), false);
        }
        for (Class<?> inside : GlassSpill.class.getDeclaredClasses()) {
            due(inside + " is static", Modifier.isStatic(inside.getModifiers()), true);
            due(inside + " is public", Modifier.isPublic(inside.getModifiers()), false);
            for (Method method : inside.getDeclaredMethods()) {
                due("name of a public one for " + method, names.contains(method.getName()), false);
            }
            int fields = 0;
            for (Field field : inside.getDeclaredFields()) {
                fields += Modifier.isStatic(field.getModifiers()) ? 0 : 1;
            }
            due(inside + " has more than 20 fields", fields > 20, false);
        }
        due("more than 12 classes", GlassSpill.class.getDeclaredClasses().length > 11, false);
        parametersAndStatics(GlassSpill.class);
        for (Class<?> inside : GlassSpill.class.getDeclaredClasses()) {
            parametersAndStatics(inside);
        }
    }

    private static void parametersAndStatics(Class<?> one) {
        for (Method method : one.getDeclaredMethods()) {
            due(method + " has more than 7 parameters", method.getParameterCount() > 7, false);
        }
        for (Field field : one.getDeclaredFields()) {
            boolean changes = Modifier.isStatic(field.getModifiers()) && !Modifier.isFinal(field.getModifiers());
            due(field + " is static and not final", changes, false);
        }
    }

    private static void source() throws IOException {
        String text = Files.readString(Path.of(SOURCE));
        String code = text.replaceAll("(?s)/\\*.*?\\*/", "").replaceAll("//[^\n]*", "");
        for (String forbidden : FORBIDDEN) {
            Matcher matcher = Pattern.compile(forbidden).matcher(code);
            due("sign or word that is forbidden", matcher.find() ? matcher.group() : "", "");
        }
        Matcher method = Pattern.compile("(?m)^( +)[^\\n;=]+\\([^\\n;=]*\\) \\{\\n(.*\\n)*?\\1\\}$").matcher(code);
        while (method.find()) {
            due("more than 60 lines: " + method.group().split("\n")[0].strip(), method.group().lines().count() > 60, false);
        }
    }
}
