import java.lang.reflect.Constructor;
import java.lang.reflect.Field;
import java.lang.reflect.InvocationTargetException;
import java.lang.reflect.Method;
import java.lang.reflect.Modifier;
import java.nio.file.Files;
import java.nio.file.Path;
import java.util.Arrays;
import java.util.HashSet;
import java.util.LinkedHashMap;
import java.util.Map;
import java.util.Set;
import java.util.TreeSet;

/** The face of the document, and the rules of the language that can be seen without reading. */
final class RulesTest {
    private static final String[] FACE = {
        "int insert(int, int, int, int) IndexOutOfBoundsException IllegalArgumentException IllegalStateException",
        "int remove(int) IndexOutOfBoundsException IllegalStateException",
        "int setLength(int, int) IndexOutOfBoundsException IllegalArgumentException",
        "int setPage(int) IllegalArgumentException",
        "int lockScenes()",
        "int omit(int) IndexOutOfBoundsException IllegalStateException",
        "int lockPages()",
        "int value(int) IllegalArgumentException",
        "int element(int, int) IndexOutOfBoundsException IllegalArgumentException",
        "int scene(int, int) IndexOutOfBoundsException IllegalArgumentException",
        "int page(int, int) IndexOutOfBoundsException IllegalArgumentException",
        "int find(int, int, int)",
        "int names(int, boolean) IllegalArgumentException",
        "double used()",
        "int pagesWith(int) IllegalArgumentException",
        "int smallestPage(int) IllegalArgumentException",
        "int pagesBy(int, int) IndexOutOfBoundsException IllegalArgumentException",
        "int greatestLength(int) IndexOutOfBoundsException",
        "int append(int) IllegalArgumentException IllegalStateException",
        "int clearText()",
        "int parse()",
        "int undo() IllegalStateException",
        "long digest()",
    };

    private static final String[] BARRED = {"import", "catch", "finally", "synchronized", "assert", "->", "::",
        "System.", "Thread", "Random", "Object", "Exact", "equals", "hashCode", "toString", "package", "instanceof"};

    private static final int[] ODD = {Integer.MIN_VALUE, Integer.MIN_VALUE + 1, -1, 0, 1, 60, 61, Integer.MAX_VALUE - 1,
        Integer.MAX_VALUE};

    private RulesTest() {
    }

    private static String signature(Method m) {
        StringBuilder text = new StringBuilder(m.getReturnType().getSimpleName() + " " + m.getName() + "(");
        for (int i = 0; i < m.getParameterCount(); i++) {
            text.append(i == 0 ? "" : ", ").append(m.getParameterTypes()[i].getSimpleName());
        }
        text.append(")");
        for (Class<?> e : m.getExceptionTypes()) {
            text.append(" ").append(e.getSimpleName());
        }
        return text.toString();
    }

    private static void face() {
        Set<String> due = new TreeSet<>(Arrays.asList(FACE));
        Set<String> got = new TreeSet<>();
        Set<String> names = new HashSet<>();
        for (Method m : ScriptPages.class.getDeclaredMethods()) {
            if (Modifier.isPublic(m.getModifiers())) {
                got.add(signature(m));
                names.add(m.getName());
            }
        }
        Check.yes("the public methods are " + got, got.equals(due));
        for (Method m : ScriptPages.class.getDeclaredMethods()) {
            boolean open = Modifier.isPublic(m.getModifiers());
            Check.yes("a hidden method is private: " + m, open || Modifier.isPrivate(m.getModifiers()));
            Check.yes("a private method has a name of its own: " + m, open || !names.contains(m.getName()));
            Check.yes("at most seven parameters: " + m, m.getParameterCount() <= 7);
        }
        for (Field f : ScriptPages.class.getDeclaredFields()) {
            boolean constant = f.getName().equals("NONE") && f.getType() == int.class
                    && Modifier.isPublic(f.getModifiers()) && Modifier.isStatic(f.getModifiers());
            Check.yes("a field is private: " + f, constant || Modifier.isPrivate(f.getModifiers()));
            Check.yes("a static field is final: " + f,
                    !Modifier.isStatic(f.getModifiers()) || Modifier.isFinal(f.getModifiers()));
        }
        Constructor<?>[] makers = ScriptPages.class.getDeclaredConstructors();
        Check.yes("one public constructor", makers.length == 1 && Modifier.isPublic(makers[0].getModifiers())
                && makers[0].getParameterCount() == 0);
        Check.yes("public and final", Modifier.isPublic(ScriptPages.class.getModifiers())
                && Modifier.isFinal(ScriptPages.class.getModifiers()));
    }

    private static void inside() {
        Class<?>[] classes = ScriptPages.class.getDeclaredClasses();
        Check.yes("at most twelve classes", classes.length < 12);
        for (Class<?> c : classes) {
            Check.yes("not public: " + c, !Modifier.isPublic(c.getModifiers()));
            Check.yes("static: " + c, Modifier.isStatic(c.getModifiers()));
            int fields = 0;
            for (Field f : c.getDeclaredFields()) {
                fields += Modifier.isStatic(f.getModifiers()) ? 0 : 1;
            }
            Check.yes("some twenty fields: " + c, fields <= 20);
        }
    }

    private static void source() throws java.io.IOException {
        String source = Files.readString(Path.of("src/main/java/ScriptPages.java"));
        String code = source.replaceAll("(?s)/\\*.*?\\*/", "").replaceAll("//[^\n]*", "").replaceAll("\"[^\"\n]*\"", "\"\"");
        for (String word : BARRED) {
            Check.yes("the class has no " + word, !code.contains(word));
        }
        int start = 0;
        String[] lines = source.split("\n");
        for (int i = 0; i < lines.length; i++) {
            // A line that has parentheses and no semicolon, and begins with no word of a statement, begins a method.
            if (lines[i].matches("( {4}| {8})(?!if |for |while |switch |case |default|return |\\}|/)\\w[^;]*\\([^;]*")) {
                start = i;
            }
            Check.yes("a method is short, up to line " + (i + 1), i - start < 60 || !lines[i].matches(" {4}( {4})?\\}"));
            Check.yes("line " + (i + 1) + " is not too long", lines[i].length() <= 120);
        }
    }

    /** No hidden method throws by itself, whatever numbers it is called with, also those that the face never hands in. */
    private static void guards() throws ReflectiveOperationException {
        Map<Class<?>, Object> made = new LinkedHashMap<>();
        made.put(ScriptPages.class, Scripts.rich());
        for (int size : new int[] {-1, 0, 1, 60}) {
            made.put(classInside("Row"), make("Row", new Object[] {size}));
            for (String name : new String[] {"Script", "Scenes", "Pages", "History"}) {
                made.put(classInside(name), make(name, new Object[0]));
            }
            Object row = made.get(classInside("Row"));
            made.put(classInside("Reader"), make("Reader", new Object[] {row, size}));
            for (Class<?> c : ScriptPages.class.getDeclaredClasses()) {
                Check.yes("the test knows how to make " + c, made.containsKey(c));
            }
            for (Class<?> c : made.keySet()) {
                for (Method m : c.getDeclaredMethods()) {
                    if (!Modifier.isPublic(m.getModifiers())) {
                        callWithOdd(m, made, new Object[m.getParameterCount()], 0);
                    }
                }
            }
        }
    }

    private static Class<?> classInside(String name) {
        for (Class<?> c : ScriptPages.class.getDeclaredClasses()) {
            if (c.getSimpleName().equals(name)) {
                return c;
            }
        }
        throw new IllegalStateException("the test knows of a class that is not there: " + name);
    }

    private static Object make(String name, Object[] arguments) throws ReflectiveOperationException {
        Constructor<?> maker = classInside(name).getDeclaredConstructors()[0];
        maker.setAccessible(true);
        return maker.newInstance(arguments);
    }

    /** Fills in the arguments from one place on, with all odd numbers there. */
    private static void callWithOdd(Method m, Map<Class<?>, Object> made, Object[] arguments, int place)
            throws ReflectiveOperationException {
        if (place == arguments.length) {
            call(m, made.get(m.getDeclaringClass()), arguments);
            return;
        }
        Class<?> type = m.getParameterTypes()[place];
        if (type != int.class) {
            arguments[place] = made.get(type);
            callWithOdd(m, made, arguments, place + 1);
            return;
        }
        for (int number : ODD) {
            arguments[place] = number;
            callWithOdd(m, made, arguments, place + 1);
        }
    }

    private static void call(Method m, Object on, Object[] arguments) throws ReflectiveOperationException {
        m.setAccessible(true);
        try {
            m.invoke(on, arguments);
        } catch (InvocationTargetException e) {
            Check.report(m.getDeclaringClass().getSimpleName() + "." + m.getName() + Arrays.toString(arguments)
                    + " threw " + e.getCause());
        }
    }

    public static void main(String[] args) throws java.io.IOException, ReflectiveOperationException {
        face();
        inside();
        source();
        guards();
        Check.end();
    }
}
