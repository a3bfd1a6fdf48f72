import java.io.IOException;
import java.lang.reflect.Field;
import java.lang.reflect.Method;
import java.lang.reflect.Modifier;
import java.nio.file.Files;
import java.nio.file.Path;
import java.util.HashSet;
import java.util.List;
import java.util.Set;
import java.util.TreeSet;
import java.util.regex.Matcher;
import java.util.regex.Pattern;
import java.util.stream.Stream;

/** The public face of DOC.md, nothing beside it, and those rules of LANGUAGE.md that show in the text. */
public final class FaceTest {
    private static final String[] METHODS = {
        "paint 4", "setStock 1", "setWind 2", "flag 2", "bend 2", "unbend 1", "exchange 2", "lower 0",
        "sign 3", "enter 2", "strike 1", "entry 2", "seen 3", "word 2", "known 1", "isSame 0", "sail 1",
        "answer 0", "logged 2", "total 1", "leastWind 1", "ifTurned 1", "mendingExchange 0",
        "bestEntry 1", "append 1", "clearText 0", "errorPosition 0", "hoist 0", "undo 0", "save 0",
        "restore 0"};
    private static final String[] NOT_IN_THE_LANGUAGE = {
        "\\bthrow\\b", "\\bthrows\\b", "\\btry\\b", "\\bcatch\\b", "\\bassert\\b", "\\bsynchronized\\b",
        "\\bimport\\b", "\\bpackage\\b", "->", "::", "\\bprotected\\b", "\\binstanceof\\b"};
    private static final Set<String> LIBRARY = Set.of("System.arraycopy", "Math.min", "Math.max");
    private static final Checks checks = new Checks();

    public static void main(String[] args) throws IOException {
        constants();
        methods();
        members();
        nestedClasses();
        text();
        sizes();
        checks.finish();
    }

    private static void constants() {
        checks.due("NO_SUCH", MastFlags.NO_SUCH, -1);
        checks.due("BAD_VALUE", MastFlags.BAD_VALUE, -2);
        checks.due("NOT_POSSIBLE", MastFlags.NOT_POSSIBLE, -3);
        checks.due("LIMIT", MastFlags.LIMIT, -4);
        checks.due("BAD_TEXT", MastFlags.BAD_TEXT, -5);
        checks.due("NONE", MastFlags.NONE, -6);
        checks.due("PENNANT", MastFlags.PENNANT, 10);
    }

    private static void methods() {
        Set<String> found = new TreeSet<>();
        for (Method method : MastFlags.class.getDeclaredMethods()) {
            if (Modifier.isPublic(method.getModifiers())) {
                found.add(method.getName() + " " + method.getParameterCount());
                checks.same(method.getName(), method.getReturnType().getName(), "int");
            }
        }
        checks.same("the public methods", found.toString(), new TreeSet<>(Set.of(METHODS)).toString());
        checks.due("constructors", MastFlags.class.getDeclaredConstructors().length, 1);
        checks.due("public constructors", MastFlags.class.getConstructors().length, 1);
        checks.same("the class", Modifier.toString(MastFlags.class.getModifiers()), "public final");
    }

    private static void members() {
        Set<String> face = new TreeSet<>();
        for (String method : METHODS) {
            face.add(method.substring(0, method.indexOf(' ')));
        }
        for (Method method : MastFlags.class.getDeclaredMethods()) {
            boolean isPublic = Modifier.isPublic(method.getModifiers());
            checks.due(method + " hidden", isPublic || Modifier.isPrivate(method.getModifiers()) ? 1 : 0, 1);
            checks.due(method + " hides one", !isPublic && face.contains(method.getName()) ? 1 : 0, 0);
        }
        int constants = 0;
        for (Field field : MastFlags.class.getDeclaredFields()) {
            int modifiers = field.getModifiers();
            if (Modifier.isPublic(modifiers)) {
                constants++;
                checks.same(field.getName(), Modifier.toString(modifiers), "public static final");
            } else {
                checks.due(field + " is private", Modifier.isPrivate(modifiers) ? 1 : 0, 1);
                checks.due(field + " is static and changes", staticAndChanges(field) ? 1 : 0, 0);
            }
        }
        checks.due("public fields", constants, 7);
    }

    private static boolean staticAndChanges(Field field) {
        return Modifier.isStatic(field.getModifiers()) && !Modifier.isFinal(field.getModifiers());
    }

    private static void nestedClasses() {
        Class<?>[] nested = MastFlags.class.getDeclaredClasses();
        checks.due("more than twelve classes", nested.length > 11 ? 1 : 0, 0);
        for (Class<?> inside : nested) {
            int modifiers = inside.getModifiers();
            checks.due(inside + " is static", Modifier.isStatic(modifiers) ? 1 : 0, 1);
            checks.due(inside + " is public", Modifier.isPublic(modifiers) ? 1 : 0, 0);
            checks.due(inside + " has classes", inside.getDeclaredClasses().length, 0);
            for (Field field : inside.getDeclaredFields()) {
                checks.due(field + " is static and changes", staticAndChanges(field) ? 1 : 0, 0);
            }
        }
    }

    private static void text() throws IOException {
        String program = Files.readString(Path.of("src/main/java/MastFlags.java"));
        String code = Pattern.compile("/\\*.*?\\*/|//[^\n]*", Pattern.DOTALL).matcher(program).replaceAll("");
        for (String pattern : NOT_IN_THE_LANGUAGE) {
            checks.due(pattern + " is used", Pattern.compile(pattern).matcher(code).find() ? 1 : 0, 0);
        }
        checks.due("other characters", program.chars().filter(c -> c > 126).count(), 0);
        Matcher used = Pattern.compile("\\b[A-Z][a-z]\\w*\\.\\w+").matcher(code);
        while (used.find()) {
            checks.due(used.group() + " of the library", LIBRARY.contains(used.group()) ? 1 : 0, 1);
        }
    }

    /** The bounds of rule 11: parameters, fields beside constants; a method is some 60 lines long. */
    private static void sizes() throws IOException {
        Set<Class<?>> classes = new HashSet<>(Set.of(MastFlags.class.getDeclaredClasses()));
        classes.add(MastFlags.class);
        for (Class<?> each : classes) {
            for (Method method : each.getDeclaredMethods()) {
                checks.due(method + " takes more than seven", method.getParameterCount() > 7 ? 1 : 0, 0);
            }
            long fields = Stream.of(each.getDeclaredFields()).filter(f -> !Modifier.isStatic(f.getModifiers())).count();
            checks.due(each + " has more than twenty fields", fields > 20 ? 1 : 0, 0);
        }
        List<String> lines = Files.readAllLines(Path.of("src/main/java/MastFlags.java"));
        Pattern head = Pattern.compile("( +)(?!if|for|while|switch)\\w.*\\) \\{");
        int methods = 0;
        for (int at = 0; at < lines.size(); at++) {
            Matcher method = head.matcher(lines.get(at));
            if (method.matches()) {
                methods++;
                int length = lines.subList(at, lines.size()).indexOf(method.group(1) + "}") + 1;
                checks.due("lines of " + lines.get(at).trim() + " are more than 60", length > 60 ? 1 : 0, 0);
            }
        }
        checks.due("too few methods are measured", methods < METHODS.length ? 1 : 0, 0);
    }
}
