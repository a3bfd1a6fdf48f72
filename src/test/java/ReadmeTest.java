import java.io.IOException;
import java.lang.reflect.Field;
import java.lang.reflect.Method;
import java.lang.reflect.Modifier;
import java.nio.file.Files;
import java.nio.file.Path;
import java.util.List;
import java.util.regex.Matcher;
import java.util.regex.Pattern;
import java.util.stream.Stream;

/** Whether README.md is right: its examples, the constants, the calls and the tests that it names. */
public final class ReadmeTest {
    private static final Pattern EXAMPLE = Pattern.compile("```java\n(.*?)```", Pattern.DOTALL);
    private static final Pattern MAKING = Pattern.compile("MastFlags mast = new MastFlags\\(\\);");
    private static final Pattern CALL = Pattern.compile("mast\\.(\\w+)\\((.*?)\\);\\s+// (-?\\d+)(: .*)?");
    private static final Pattern SIGNATURE = Pattern.compile("public int (\\w+)\\(([\\w ,]*)\\);");
    private static final Checks checks = new Checks();

    public static void main(String[] args) throws IOException, ReflectiveOperationException {
        String readme = Files.readString(Path.of("README.md"));
        examples(readme);
        constants(readme);
        calls(readme, Files.readString(Path.of("../shared/DOC.md")));
        tests(readme);
        names(readme, "for at most 512 calls");
        names(readme, "\n.ci/run\n");
        checks.finish();
    }

    private static void names(String readme, String words) {
        checks.due("README.md names " + words, readme.contains(words) ? 1 : 0, 1);
    }

    private static void examples(String readme) throws ReflectiveOperationException {
        Matcher example = EXAMPLE.matcher(readme);
        int found = 0;
        while (example.find()) {
            found++;
            run(found, example.group(1).lines().toList());
        }
        checks.due("README.md has no examples", found == 0 ? 1 : 0, 0);
    }

    private static void run(int example, List<String> lines) throws ReflectiveOperationException {
        MastFlags mast = new MastFlags();
        checks.due("example " + example + " makes an object", MAKING.matcher(lines.get(0)).matches() ? 1 : 0, 1);
        for (String line : lines.subList(1, lines.size())) {
            Matcher call = CALL.matcher(line);
            boolean isCall = call.matches();
            checks.due("example " + example + " tells the answer of " + line, isCall ? 1 : 0, 1);
            if (isCall) {
                int due = Integer.parseInt(call.group(3));
                checks.due("example " + example + ": " + line, ask(mast, call.group(1), call.group(2)), due);
                nameOf(due, call.group(4), line);
            }
        }
    }

    /** An error code or NONE is told by its name, too. */
    private static void nameOf(int due, String words, String line) throws ReflectiveOperationException {
        for (Field constant : MastFlags.class.getFields()) {
            if (due < 0 && constant.getInt(null) == due) {
                boolean isNamed = words != null && words.startsWith(": " + constant.getName());
                checks.due("the name behind " + line, isNamed ? 1 : 0, 1);
            }
        }
    }

    private static int ask(MastFlags mast, String name, String written) throws ReflectiveOperationException {
        String[] words = written.isEmpty() ? new String[0] : written.split(", ");
        Object[] numbers = new Object[words.length];
        for (int at = 0; at < words.length; at++) {
            numbers[at] = numberOf(words[at]);
        }
        for (Method method : MastFlags.class.getMethods()) {
            if (method.getName().equals(name) && method.getParameterCount() == numbers.length) {
                return (int) method.invoke(mast, numbers);
            }
        }
        throw new NoSuchMethodException(name + " of " + numbers.length);
    }

    /** A number, a character, a constant of the face, or a sum of such. */
    private static int numberOf(String written) throws ReflectiveOperationException {
        int sum = 0;
        for (String part : written.split(" \\+ ")) {
            if (part.startsWith("'")) {
                sum += part.charAt(1);
            } else if (part.startsWith("MastFlags.")) {
                sum += MastFlags.class.getField(part.substring("MastFlags.".length())).getInt(null);
            } else {
                sum += Integer.parseInt(part);
            }
        }
        return sum;
    }

    private static void constants(String readme) throws IllegalAccessException {
        for (Field field : MastFlags.class.getFields()) {
            names(readme, "\n| `" + field.getName() + "` | " + field.getInt(null) + " | ");
        }
    }

    private static void calls(String readme, String document) {
        Matcher signature = SIGNATURE.matcher(document);
        int found = 0;
        while (signature.find()) {
            found++;
            String call = signature.group(1) + "(" + signature.group(2).replace("int ", "") + ")";
            names(readme, "\n| `" + call + "` | ");
        }
        long face = Stream.of(MastFlags.class.getDeclaredMethods())
                .filter(method -> Modifier.isPublic(method.getModifiers())).count();
        checks.due("the document's calls", found, face);
    }

    private static void tests(String readme) throws IOException {
        try (Stream<Path> files = Files.list(Path.of("src/test/java"))) {
            for (Path file : files.sorted().toList()) {
                String name = file.getFileName().toString().replace(".java", "");
                if (name.endsWith("Test")) {
                    names(readme, "`" + name + "`");
                }
            }
        }
    }
}
