import java.io.IOException;
import java.lang.reflect.InvocationTargetException;
import java.lang.reflect.Method;
import java.lang.reflect.Modifier;
import java.nio.file.Files;
import java.nio.file.Path;
import java.util.ArrayList;
import java.util.HashSet;
import java.util.LinkedHashMap;
import java.util.List;
import java.util.Map;
import java.util.Set;
import java.util.regex.Matcher;
import java.util.regex.Pattern;

/**
 * BOUNDARIES.md lists the document's sentences with their tests: here each listed test is run, and the list is
 * held against the document, so that no sentence is left out, and against the tests, so that none is forgotten.
 */
final class BoundariesTest {
    private static final Class<?>[] TESTS = {ElementBounds.class, LabelBounds.class, PageBounds.class,
        MarkBounds.class, TextBounds.class, UndoBounds.class, ChangeBounds.class, AnswerBounds.class,
        WhatIfBounds.class};
    private static final Pattern ROW = Pattern.compile("\\| (.+) \\| (.+) \\|");
    private static final String NO_TEST = "-";

    private BoundariesTest() {
    }

    /** The lines of each section, by its heading; what is fenced, and the signatures, are no sentences. */
    private static Map<String, List<String>> sections(Path file) throws IOException {
        Map<String, List<String>> sections = new LinkedHashMap<>();
        List<String> lines = new ArrayList<>();
        boolean fenced = false;
        for (String line : Files.readAllLines(file)) {
            if (line.startsWith("```")) {
                fenced = !fenced;
            } else if (line.startsWith("## ")) {
                lines = new ArrayList<>();
                sections.put(line, lines);
            } else if (!fenced && !line.matches("`[^`]*`") && !line.startsWith("----")) {
                lines.add(line);
            }
        }
        return sections;
    }

    /** The rows' sentences, one behind the other, are the section's text. */
    private static void comparesToDocument(String section, List<String> document, List<String> sentences) {
        String left = String.join("\n", document);
        for (String sentence : sentences) {
            int at = left.indexOf(sentence);
            if (at < 0) {
                Check.report(section + ": not in the document, or not at this place: " + sentence);
                return;
            }
            Check.yes(section + ": not in the list: " + left.substring(0, at).strip(), isBlank(left.substring(0, at)));
            left = left.substring(at + sentence.length());
        }
        Check.yes(section + ": not in the list: " + left.strip(), isBlank(left));
    }

    /** Nothing but the marks of a list's items. */
    private static boolean isBlank(String text) {
        return text.replaceAll("(?m)^- ", "").isBlank();
    }

    private static Map<String, Method> tests() {
        Map<String, Method> tests = new LinkedHashMap<>();
        for (Class<?> c : TESTS) {
            for (Method m : c.getDeclaredMethods()) {
                if (!Modifier.isPrivate(m.getModifiers()) && !m.isSynthetic()) {
                    tests.put(c.getSimpleName() + "." + m.getName(), m);
                }
            }
        }
        return tests;
    }

    private static void run(String name, Method test) throws IllegalAccessException {
        if (test == null) {
            Check.report("no such test: " + name);
            return;
        }
        int asked = Check.asked();
        int wrong = Check.wrong();
        try {
            test.invoke(null);
        } catch (InvocationTargetException e) {
            Check.report(name + " threw " + e.getCause());
        }
        Check.yes(name + " asks for nothing", Check.asked() > asked);
        if (Check.wrong() != wrong) {
            System.out.println("not held by the class, or broken itself: " + name);
        }
    }

    /** A column of the table: 1 the sentences, 2 the tests. */
    private static List<String> column(int column, List<String> lines) {
        List<String> cells = new ArrayList<>();
        for (String line : lines) {
            Matcher row = ROW.matcher(line);
            if (row.matches() && !line.equals("| sentence | test |")) {
                cells.add(row.group(column));
            }
        }
        return cells;
    }

    private static void holdsAgainstDocument(Map<String, List<String>> list) throws IOException {
        Path file = Path.of("../shared/DOC.md");
        if (!Files.exists(file)) {
            // The tests of the list are run all the same: they need no document.
            System.out.println("no " + file + " here: the list is not held against it");
            return;
        }
        Map<String, List<String>> document = sections(file);
        Check.text("the sections", list.keySet().toString(), document.keySet().toString());
        for (String section : list.keySet()) {
            comparesToDocument(section, document.getOrDefault(section, List.of()), column(1, list.get(section)));
        }
    }

    private static void all() throws IOException, IllegalAccessException {
        Map<String, List<String>> list = sections(Path.of("BOUNDARIES.md"));
        holdsAgainstDocument(list);
        Map<String, Method> tests = tests();
        Set<String> ran = new HashSet<>();
        for (String section : list.keySet()) {
            for (String cell : column(2, list.get(section))) {
                String name = cell.replace("`", "");
                if (!name.equals(NO_TEST)) {
                    Check.yes("one sentence a test: " + name, ran.add(name));
                    run(name, tests.get(name));
                }
            }
        }
        for (String name : tests.keySet()) {
            Check.yes("not in the list: " + name, ran.contains(name));
        }
        System.out.println(ran.size() + " sentences are tested");
    }

    /** With names of tests, these only are run, by which a test alone can be tried on a class that is spoilt. */
    public static void main(String[] args) throws IOException, IllegalAccessException {
        if (args.length == 0) {
            all();
        }
        for (String name : args) {
            run(name, tests().get(name));
        }
        Check.end();
    }
}
