import java.io.IOException;
import java.lang.reflect.InvocationTargetException;
import java.lang.reflect.Method;
import java.lang.reflect.Modifier;
import java.nio.file.Files;
import java.nio.file.Path;
import java.util.ArrayList;
import java.util.HashSet;
import java.util.LinkedHashMap;
import java.util.List;
import java.util.Map;
import java.util.Set;
import java.util.TreeSet;
import java.util.regex.Matcher;
import java.util.regex.Pattern;

/**
 * README.md says what is so: the calls that it shows are made, and answer what it says, and what it says
 * about each method is what the document says.
 */
final class ReadmeTest {
    private static final Path README = Path.of("README.md");
    private static final Path DOCUMENT = Path.of("../shared/DOC.md");
    private static final String NEW_OBJECT = "ScriptPages x = new ScriptPages();";
    // A call, and what it answers, with words behind a colon that may be left out.
    private static final Pattern CALL = Pattern.compile("x\\.(\\w+)\\((.*)\\); +// (throws \\w+|[-.\\w]+)(: .+)?");
    private static final Pattern PROMISE = Pattern.compile("## Promise \\d+: (.+)");

    private ReadmeTest() {
    }

    // ---- the run of calls

    private static void example() throws IOException, IllegalAccessException {
        ScriptPages x = null;
        int calls = 0;
        Map<String, Method> methods = face();
        Set<String> shown = new TreeSet<>();
        for (String line : fenced("```java")) {
            Matcher call = CALL.matcher(line);
            if (line.equals(NEW_OBJECT)) {
                x = new ScriptPages();
            } else if (!call.matches() || x == null || !methods.containsKey(call.group(1))) {
                Check.report("README.md: not a call with its answer: " + line);
            } else {
                calls++;
                shown.add(call.group(1));
                Check.text("README.md: " + line, outcome(x, methods.get(call.group(1)), call.group(2)), call.group(3));
            }
        }
        Check.text("README.md shows each method", shown.toString(), new TreeSet<>(methods.keySet()).toString());
        Check.yes("README.md keeps to 512 calls an object", calls <= 512);
    }

    private static Map<String, Method> face() {
        Map<String, Method> face = new LinkedHashMap<>();
        for (Method m : ScriptPages.class.getDeclaredMethods()) {
            if (Modifier.isPublic(m.getModifiers())) {
                face.put(m.getName(), m);
            }
        }
        return face;
    }

    private static List<String> fenced(String fence) throws IOException {
        List<String> lines = new ArrayList<>();
        boolean inside = false;
        for (String line : Files.readAllLines(README)) {
            if (line.startsWith("```")) {
                inside = !inside && line.equals(fence);
            } else if (inside) {
                lines.add(line);
            }
        }
        return lines;
    }

    private static String outcome(ScriptPages x, Method method, String arguments) throws IllegalAccessException {
        String[] words = arguments.isEmpty() ? new String[0] : arguments.split(", ");
        if (words.length != method.getParameterCount()) {
            return "not a call of " + method;
        }
        Object[] values = new Object[words.length];
        for (int i = 0; i < words.length; i++) {
            values[i] = argument(words[i]);
        }
        try {
            return String.valueOf(method.invoke(x, values));
        } catch (InvocationTargetException e) {
            return "throws " + e.getCause().getClass().getSimpleName();
        }
    }

    private static Object argument(String word) {
        if (word.equals("true") || word.equals("false")) {
            return word.equals("true");
        }
        if (word.equals("ScriptPages.NONE")) {
            return ScriptPages.NONE;
        }
        return word.matches("'.'") ? (int) word.charAt(1) : Integer.parseInt(word);
    }

    // ---- the words

    /** What stands under each heading, line by line; lines that were wrapped are put together again. */
    private static Map<String, List<String>> sections(Path file) throws IOException {
        Map<String, List<String>> sections = new LinkedHashMap<>();
        List<String> items = new ArrayList<>();
        boolean begins = true;
        for (String line : Files.readAllLines(file)) {
            Matcher promise = PROMISE.matcher(line);
            if (line.startsWith("#")) {
                items = new ArrayList<>();
                sections.put(promise.matches() ? "#### " + promise.group(1) : line, items);
            }
            boolean isText = !line.isBlank() && !line.startsWith("#") && !line.startsWith("----");
            if (isText && (begins || line.startsWith("- "))) {
                items.add(line.startsWith("- ") ? line.substring(2) : line);
            } else if (isText) {
                items.set(items.size() - 1, items.get(items.size() - 1) + " " + line.strip());
            }
            begins = !isText;
        }
        return sections;
    }

    private static void methodsInTheDocumentsWords(Map<String, List<String>> readme, Map<String, List<String>> document) {
        Set<String> told = new HashSet<>();
        for (String heading : readme.keySet()) {
            if (heading.startsWith("#### ")) {
                told.add(heading.substring(5));
                Check.text("README.md, " + heading, String.join("\n", readme.get(heading)),
                        String.join("\n", document.getOrDefault(heading, List.of("not in the document"))));
            }
        }
        Set<String> due = new HashSet<>(face().keySet());
        due.add("A new object");
        Check.yes("README.md tells of " + told + ", due is " + due, told.equals(due));
    }

    private static void sentencesOfTheDocument(Map<String, List<String>> readme) throws IOException {
        List<String> items = readme.getOrDefault("## What the words mean", List.of());
        Check.yes("README.md says what the words mean", items.size() > 1);
        String document = Files.readString(DOCUMENT);
        // The first one says what the others are.
        for (int i = 1; i < items.size(); i++) {
            Check.yes("README.md: not in the document: " + items.get(i), document.contains(items.get(i)));
        }
    }

    /** The table of the tests has each test that .ci/run runs. */
    private static void testsAreListed() throws IOException {
        String readme = Files.readString(README);
        try (var files = Files.list(Path.of("src/test/java"))) {
            for (Path file : (Iterable<Path>) files::iterator) {
                String name = file.getFileName().toString().replace(".java", "");
                Check.yes("README.md lists " + name, !name.endsWith("Test") || readme.contains("| `" + name + "` |"));
            }
        }
    }

    public static void main(String[] args) throws IOException, IllegalAccessException {
        example();
        testsAreListed();
        if (Files.exists(DOCUMENT)) {
            Map<String, List<String>> readme = sections(README);
            methodsInTheDocumentsWords(readme, sections(DOCUMENT));
            sentencesOfTheDocument(readme);
        } else {
            System.out.println("no " + DOCUMENT + " here: the words are not held against it");
        }
        Check.end();
    }
}
