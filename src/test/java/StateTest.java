/** Promises 23 and 24: undo and digest. */
final class StateTest {
    private static final Class<IllegalStateException> STATE = IllegalStateException.class;

    private StateTest() {
    }

    private static void promise23() {
        ScriptPages x = new ScriptPages();
        for (int i = 0; i < 6; i++) {
            x.insert(i, 1, i + 1, -1);
        }
        for (int left = 3; left >= 0; left--) {
            Check.same("23: undo()", x.undo(), left);
            Check.same("23: elements", x.value(0), left + 2);
        }
        Check.refuses("23: the oldest states are dropped", x, STATE, x::undo);
        Check.same("23: what is there stays", x.element(1, 1), 2);
    }

    /** The call is undoable: one state more, and undo brings back the digest. */
    private static void undoable(String what, ScriptPages x, Check.Call call) {
        while (true) {
            try {
                x.undo();
            } catch (IllegalStateException e) {
                break;
            }
        }
        long before = x.digest();
        call.run();
        Check.same("23: undo of " + what, x.undo(), 0);
        Check.same("23: all is back after " + what, x.digest(), before);
    }

    private static ScriptPages rich() {
        ScriptPages x = Make.of(20, "h61;n1;s400;h1;a400;n2;r30;s90;h9;");
        x.lockPages();
        x.lockScenes();
        x.insert(3, 0, 30, -1);
        x.omit(0);
        x.setLength(0, 70);
        x.setPage(24);
        x.setPage(25);
        x.setPage(21);
        x.setPage(20);
        return x;
    }

    private static void allUndoable() {
        ScriptPages a = rich();
        undoable("insert", a, () -> a.insert(2, 2, 5, 9));
        undoable("remove", a, () -> a.remove(1));
        undoable("setLength", a, () -> a.setLength(2, 380));
        undoable("setLength to the same", a, () -> a.setLength(2, a.element(2, 1)));
        undoable("setPage", a, () -> a.setPage(44));
        undoable("setPage to the same", a, () -> a.setPage(20));
        undoable("lockScenes", a, a::lockScenes);
        undoable("omit", a, () -> a.omit(2));
        undoable("lockPages", a, a::lockPages);
        undoable("parse", a, a::parse);
        Check.same("23: undo keeps the text", a.clearText(), 34);
        ScriptPages none = new ScriptPages();
        undoable("lockPages that changes nothing", none, none::lockPages);
        undoable("lockScenes that changes nothing", none, none::lockScenes);
        undoable("parse that changes nothing", none, none::parse);
    }

    private static void notUndoable() {
        ScriptPages x = rich();
        long before = x.digest();
        x.value(0);
        x.element(0, 0);
        x.scene(0, 0);
        x.page(0, 0);
        x.find(1, 0, 0);
        x.names(1, true);
        x.used();
        x.pagesWith(30);
        x.smallestPage(3);
        x.pagesBy(0, 30);
        x.greatestLength(3);
        Check.same("23: questions save no state", x.digest(), before);
        x.append('x');
        x.parse();
        Check.yes("23: the text's length is in the digest", x.digest() != before);
        Check.same("23: a wrong text saves no state", x.undo(), 3);
    }

    private static long hash(long... values) {
        long h = 3331;
        for (long v : values) {
            h = 31 * h + v;
        }
        return h;
    }

    private static void promise24() {
        ScriptPages x = new ScriptPages();
        Check.same("24: a new object", x.digest(), hash(0, 0, 0, 0, 50, 0, 0, 0, 0, 0));
        x.insert(0, 0, 61, -1);
        x.append('q');
        Check.same("24: a heading", x.digest(), hash(1, 1, 1, 1, 50, 0, 0, 0, 0,
                0, 61, -1, 2, 0, -1, 0, 0, 2, 0,
                1, 0, 0, 0, 0, 0, 1, 2, 1, 0,
                1, 0, 2, 0, 1,
                1));
        x.lockScenes();
        x.insert(1, 2, 3, 7);
        x.lockPages();
        Check.same("24: a name, and locks", x.digest(), hash(1, 2, 1, 1, 50, 1, 1, 0, 0,
                0, 61, -1, 2, 0, 1, 0, 0, 2, 0,
                2, 3, 7, 1, 0, -1, 0, 3, 1, 0,
                1, 0, 0, 1, 0, 0, 2, 3, 1, 0,
                1, 0, 4, 0, 2,
                4));
        x.undo();
        Check.same("24: after undo", x.digest(), hash(1, 2, 1, 1, 50, 1, 0, 0, 0,
                0, 61, -1, 2, 0, -1, 0, 0, 2, 0,
                2, 3, 7, 1, 0, -1, 0, 3, 1, 0,
                1, 0, 0, 1, 0, 0, 2, 3, 1, 0,
                1, 0, 4, 0, 2,
                3));
    }

    public static void main(String[] args) {
        promise23();
        allUndoable();
        notUndoable();
        promise24();
        Check.end();
    }
}
