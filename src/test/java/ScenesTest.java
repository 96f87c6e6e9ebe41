/** Promises 6, 7, 11 and 13: scenes, their labels and locks, and omitted scenes. */
final class ScenesTest {
    private static final Class<IndexOutOfBoundsException> INDEX = IndexOutOfBoundsException.class;
    private static final Class<IllegalArgumentException> ARGUMENT = IllegalArgumentException.class;
    private static final Class<IllegalStateException> STATE = IllegalStateException.class;

    private ScenesTest() {
    }

    private static void promise6() {
        ScriptPages x = Make.of("a1;h1;a1;h1;h1;");
        Check.text("6: no scene is locked", Make.labels(x), "1.0.0 2.0.0 3.0.0");
        Check.same("6: lockScenes", x.lockScenes(), 3);
        Check.same("6: lockScenes again", x.lockScenes(), 0);
        Check.text("6: the same labels", Make.labels(x), "1.0.0 2.0.0 3.0.0");
        x.insert(5, 0, 1, -1);
        x.insert(5, 0, 1, -1);
        x.insert(0, 0, 1, -1);
        x.insert(4, 0, 1, -1);
        x.insert(4, 0, 1, -1);
        Check.text("6: scenes between", Make.labels(x), "0.1.0 1.0.0 1.1.0 1.2.0 2.0.0 3.0.0 3.1.0 3.2.0");
        Check.same("6: scene(0, 3)", x.scene(0, 3), 0);
        Check.same("6: lockScenes then", x.lockScenes(), 5);
        Check.same("6: scene(0, 3) then", x.scene(0, 3), 1);
        x.insert(0, 0, 1, -1);
        Check.text("6: ahead of 0.1.0", Make.labels(x), "0.0.1 0.1.0 1.0.0 1.1.0 1.2.0 2.0.0 3.0.0 3.1.0 3.2.0");
        ScriptPages none = new ScriptPages();
        Check.same("6: without scenes", none.lockScenes(), 0);
        Check.same("6: undoable though it changes nothing", none.undo(), 0);
    }

    private static void labelsBetween() {
        ScriptPages x = Make.of("h1;h1;");
        x.lockScenes();
        x.insert(1, 0, 1, -1);
        x.insert(1, 0, 1, -1);
        x.lockScenes();
        Check.text("6: 1.1.0 and 1.2.0", Make.labels(x), "1.0.0 1.1.0 1.2.0 2.0.0");
        x.insert(2, 0, 1, -1);
        x.insert(2, 0, 1, -1);
        Check.text("6: third numbers", Make.labels(x), "1.0.0 1.1.0 1.1.1 1.1.2 1.2.0 2.0.0");
        x.remove(2);
        Check.text("6: they follow their places", Make.labels(x), "1.0.0 1.1.0 1.1.1 1.2.0 2.0.0");
        x.insert(4, 0, 1, -1);
        Check.text("6: behind the last of 1", Make.labels(x), "1.0.0 1.1.0 1.1.1 1.2.0 1.3.0 2.0.0");
        x.lockScenes();
        Check.refuses("6: 1.1.1 is there", x, STATE, () -> x.insert(2, 0, 1, -1));
        x.insert(3, 0, 1, -1);
        Check.text("6: behind 1.1.1", Make.labels(x), "1.0.0 1.1.0 1.1.1 1.1.2 1.2.0 1.3.0 2.0.0");
    }

    private static void locksMove() {
        ScriptPages x = Make.of("a1;h1;h1;");
        x.lockScenes();
        x.insert(2, 0, 1, -1);
        x.lockScenes();
        x.insert(2, 0, 1, -1);
        x.lockScenes();
        Check.text("6: locked labels", Make.labels(x), "1.0.0 1.0.1 1.1.0 2.0.0");
        x.remove(0);
        Check.text("6: they go with their headings", Make.labels(x), "1.0.0 1.0.1 1.1.0 2.0.0");
        x.insert(0, 1, 1, -1);
        Check.text("6: to both sides", Make.labels(x), "1.0.0 1.0.1 1.1.0 2.0.0");
        x.insert(5, 0, 1, -1);
        x.remove(5);
        Check.text("6: an open one takes nothing with it", Make.labels(x), "1.0.0 1.0.1 1.1.0 2.0.0");
    }

    private static void promise7() {
        ScriptPages x = Make.of("h100;a1;h100;a2;n1;s5;h1;a9;");
        Check.refuses("7: not locked", x, STATE, () -> x.omit(1));
        Check.refuses("7: omit(-1)", x, INDEX, () -> x.omit(-1));
        Check.refuses("7: omit(3)", x, INDEX, () -> x.omit(3));
        x.lockScenes();
        Check.same("7: omit(1)", x.omit(1), 3);
        Check.text("7: the omitted scene", Make.scene(x, 1), "2 0 0 1 1 2 1 1 1 0");
        Check.text("7: its neighbour", Make.scene(x, 2), "3 0 0 1 0 3 2 2 1 0");
        Check.text("7: its heading", Make.element(x, 2), "0 100 -1 1 1 -1 0 6 1 0");
        Check.refuses("7: omitted already", x, STATE, () -> x.omit(1));
        Check.same("7: the last scene", x.omit(2), 1);
        Check.same("7: elements that are left", x.value(0), 4);
        x.insert(3, 1, 5, -1);
        Check.same("7: an omitted scene takes elements", x.scene(1, 6), 2);
        Check.refuses("7: and stays omitted", x, STATE, () -> x.omit(1));
        ScriptPages y = Make.of("h1;h1;");
        y.lockScenes();
        Check.same("7: nothing but the heading", y.omit(0), 0);
        Check.same("7: undoable", y.undo(), 3);
        Check.same("7: not omitted then", y.scene(0, 4), 0);
    }

    private static void promise11() {
        ScriptPages x = Make.of(20, "a1;h61;a400;n1;s400;h1;r26;a1;h400;");
        Check.text("11: scene 0", Make.scene(x, 0), "1 0 0 0 0 1 4 22 9 0");
        Check.text("11: scene 1", Make.scene(x, 1), "2 0 0 0 0 5 3 4 2 1");
        Check.text("11: scene 2", Make.scene(x, 2), "3 0 0 0 0 8 1 7 3 2");
        x.setPage(60);
        Check.same("11: eighths of another page", x.scene(0, 8), 3);
        x.lockScenes();
        Check.same("11: locked", x.scene(2, 3), 1);
        Check.refuses("11: scene(-1)", x, INDEX, () -> x.scene(-1, 10));
        Check.refuses("11: scene(3)", x, INDEX, () -> x.scene(3, -1));
        Check.refuses("11: what -1", x, ARGUMENT, () -> x.scene(0, -1));
        Check.refuses("11: what 10", x, ARGUMENT, () -> x.scene(0, 10));
        ScriptPages rounded = Make.of(21, "h360;a120;");
        Check.same("11: eighths are rounded up", rounded.scene(0, 8), 4);
        ScriptPages eighth = Make.of(56, "h60;a360;h60;a400;");
        Check.same("11: one eighth, even", eighth.scene(0, 8), 1);
        Check.same("11: one eighth and a line", eighth.scene(1, 8), 2);
    }

    private static void promise13() {
        ScriptPages x = Make.of("h1;h1;h1;");
        Check.same("13: find(2, 0, 0)", x.find(2, 0, 0), 1);
        x.lockScenes();
        x.insert(1, 0, 1, -1);
        Check.same("13: find(2, 0, 0) behind a scene between", x.find(2, 0, 0), 2);
        Check.same("13: an open scene", x.find(1, 1, 0), 1);
        Check.same("13: find(1, 0, 1)", x.find(1, 0, 1), -1);
        Check.same("13: find(1, 0, 0)", x.find(1, 0, 0), 0);
        Check.same("13: find(4, 0, 0)", x.find(4, 0, 0), -1);
        Check.same("13: find(-1, -1, -1)", x.find(-1, -1, -1), -1);
        Check.same("13: find of the largest", x.find(Integer.MAX_VALUE, Integer.MIN_VALUE, 0), -1);
        x.omit(2);
        Check.same("13: an omitted scene", x.find(2, 0, 0), 2);
        Check.same("13: without scenes", new ScriptPages().find(0, 0, 0), -1);
    }

    public static void main(String[] args) {
        promise6();
        labelsBetween();
        locksMove();
        promise7();
        promise11();
        promise13();
        Check.end();
    }
}
