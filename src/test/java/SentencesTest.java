import java.io.IOException;
import java.lang.reflect.Method;
import java.nio.file.Files;
import java.nio.file.Path;
import java.util.ArrayList;
import java.util.Comparator;
import java.util.LinkedHashMap;
import java.util.List;
import java.util.Map;
import java.util.regex.Matcher;
import java.util.regex.Pattern;
import java.util.stream.Stream;

/**
 * Whether each sentence of the document has a test of its own: what the tests named *BoundsTest say that
 * they hold stands in its section, and nothing of a section is left over.
 */
public final class SentencesTest {
    private static final Path DOCUMENT = Path.of("../shared/DOC.md");
    private static final Path TESTS = Path.of("src/test/java");
    private static final Pattern TEST_NAME = Pattern.compile("(what|face|terms|promise(\\d\\d))[A-Z]\\w*");

    /** What is no promise, or is held by FaceTest. */
    private static final String[] WITHOUT_A_TEST = {
        "A flag language that is read from both sides of a mast:.*?log of messages\\.",
        "what later calls answer is free", "All numbers are integers\\.", "The constants:", "```(java|text)?",
        "Ahead of the calls [^:]*:( ---- (flags and wind|hoists|the book|reading|answers|texts|undo, saved state)\\.)?",
        "public final class MastFlags \\{", "public MastFlags\\(\\);", "public int \\w+\\([\\w ,]*\\);",
        "^`(int )?\\w+\\([\\w ,]*\\)`:", "(Return values|Flags|Mast|Wind|Reading|Book|Answers|Texts|Undo)\\."};

    private static final Checks checks = new Checks();

    public static void main(String[] args) throws IOException, ClassNotFoundException {
        Map<String, String> sections = sections(Files.readString(DOCUMENT));
        Map<String, List<String>> said = new LinkedHashMap<>();
        int tests = 0;
        for (Class<?> bounds : boundsTests()) {
            for (Method method : bounds.getDeclaredMethods()) {
                boolean isNamed = TEST_NAME.matcher(method.getName()).matches();
                checks.due(method + " is a test", method.isAnnotationPresent(Says.class) ? 1 : 0, isNamed ? 1 : 0);
                if (isNamed) {
                    tests++;
                    collect(method, sections, said);
                }
            }
        }
        for (Map.Entry<String, String> section : sections.entrySet()) {
            checks.same("what no test says of " + section.getKey(),
                    leftOver(section.getValue(), said.getOrDefault(section.getKey(), List.of())), "");
        }
        System.out.println(tests + " tests of sentences");
        checks.finish();
    }

    private static List<Class<?>> boundsTests() throws IOException, ClassNotFoundException {
        List<Class<?>> found = new ArrayList<>();
        try (Stream<Path> files = Files.list(TESTS)) {
            for (Path file : files.sorted().toList()) {
                String name = file.getFileName().toString();
                if (name.endsWith("BoundsTest.java")) {
                    found.add(Class.forName(name.substring(0, name.length() - ".java".length())));
                }
            }
        }
        checks.due("there are no such tests", found.isEmpty() ? 1 : 0, 0);
        return found;
    }

    /** Notes what a test says, if that stands in the section of the test's name. */
    private static void collect(Method method, Map<String, String> sections, Map<String, List<String>> said) {
        String key = sectionOf(method.getName());
        for (String words : method.getAnnotation(Says.class).value()) {
            boolean isThere = sections.getOrDefault(key, "").contains(words);
            checks.due(method.getName() + " says \"" + words + "\", which stands in " + key, isThere ? 1 : 0, 1);
            said.computeIfAbsent(key, none -> new ArrayList<>()).add(words);
        }
    }

    private static String sectionOf(String test) {
        Matcher name = TEST_NAME.matcher(test);
        if (!name.matches()) {
            return "";
        }
        switch (name.group(1)) {
            case "what": return "What it is";
            case "face": return "The public face";
            case "terms": return "Terms";
            default: return "Promise " + Integer.parseInt(name.group(2));
        }
    }

    /** The texts of the sections that promise something, with one blank for any space between words. */
    private static Map<String, String> sections(String document) {
        Map<String, String> found = new LinkedHashMap<>();
        for (String section : document.split("(?m)^## ")) {
            String[] parts = section.split("\n", 2);
            String title = parts[0].replaceFirst("(Promise \\d+):.*", "$1");
            if (title.matches("What it is|The public face|Terms|Promise \\d+")) {
                found.put(title, parts[1].replaceAll("\\s+", " ").trim());
            }
        }
        checks.due("sections", found.size(), 35);
        return found;
    }

    /** The words of a section that no test says, but for those between two of its sentences. */
    private static String leftOver(String section, List<String> said) {
        String left = section;
        for (String pattern : WITHOUT_A_TEST) {
            left = left.replaceAll(pattern, "|");
        }
        List<String> longestFirst = new ArrayList<>(said);
        longestFirst.sort(Comparator.comparing(String::length).reversed());
        for (String words : longestFirst) {
            left = left.replace(words, "|");
        }
        return left.replaceAll("\\b(and|or)\\b", "").replaceAll("[|\\s.,;:(){}-]", "");
    }
}
