/** Boundary cases of "Scene labels". */
final class LabelBounds {
    private LabelBounds() {
    }

    static void lockedStays() {
        ScriptPages x = Scripts.locked("a1;h1;h1;a1;h1;");
        Check.same("locked", x.scene(1, 3), 1);
        x.insert(1, 0, 1, -1);
        x.insert(3, 0, 1, -1);
        x.insert(6, 0, 1, -1);
        x.insert(8, 0, 1, -1);
        String due = "0.1.0 1.0.0 1.1.0 2.0.0 2.1.0 3.0.0 3.1.0";
        Check.text("scenes on all sides", Make.labels(x), due);
        Check.same("an open scene between", x.scene(2, 3), 0);
        x.lockScenes();
        Check.text("locked again", Make.labels(x), due);
        x.omit(3);
        Check.text("omitted", Make.labels(x), due);
        Check.same("locked and omitted", x.scene(3, 3), 1);
        x.remove(0);
        x.insert(0, 1, 400, -1);
        x.insert(0, 1, 400, -1);
        x.setLength(2, 400);
        x.setPage(20);
        x.lockPages();
        Check.text("moved", Make.labels(x), due);
        x.insert(2, 0, 1, -1);
        Check.text("one scene more ahead", Make.labels(x), "0.0.1 " + due);
        x.remove(2);
        Check.text("and one less", Make.labels(x), due);
        ScriptPages y = Scripts.crowded();
        y.insert(0, 1, 1, -1);
        Check.text("an element more ahead", Make.labels(y), "1.0.0 1.0.1 1.1.0 2.0.0");
        y.remove(0);
        Check.text("and one less, with third numbers", Make.labels(y), "1.0.0 1.0.1 1.1.0 2.0.0");
    }

    static void aroundLocked() {
        ScriptPages x = Scripts.locked("h1;");
        x.insert(0, 0, 1, -1);
        x.insert(0, 0, 1, -1);
        x.insert(3, 0, 1, -1);
        x.insert(3, 0, 1, -1);
        Check.text("without a locked scene before, without one behind", Make.labels(x),
                "0.1.0 0.2.0 1.0.0 1.1.0 1.2.0");
        ScriptPages y = Scripts.locked("h1;h1;");
        y.insert(1, 0, 1, -1);
        y.lockScenes();
        y.insert(3, 0, 1, -1);
        y.insert(2, 0, 1, -1);
        y.insert(1, 0, 1, -1);
        y.insert(2, 0, 1, -1);
        Check.text("the latest before, the next behind", Make.labels(y),
                "1.0.0 1.0.1 1.0.2 1.1.0 1.2.0 2.0.0 2.1.0");
        y.remove(1);
        Check.text("k begins with 1", Make.labels(y), "1.0.0 1.0.1 1.1.0 1.2.0 2.0.0 2.1.0");
        y.omit(2);
        y.insert(3, 0, 1, -1);
        Check.text("an omitted scene before", Make.labels(y), "1.0.0 1.0.1 1.1.0 1.2.0 1.3.0 2.0.0 2.1.0");
    }

    static void noneLocked() {
        ScriptPages most = Scripts.sixty(50, "h1;");
        for (int s = 0; s < 60; s++) {
            Check.same("scene " + s, most.find(s + 1, 0, 0), s);
        }
        ScriptPages x = Make.of("h1;h1;h1;");
        x.remove(0);
        x.insert(1, 0, 1, -1);
        x.insert(0, 0, 1, -1);
        Check.text("by their places", Make.labels(x), "1.0.0 2.0.0 3.0.0 4.0.0");
        x.lockScenes();
        x.insert(1, 0, 1, -1);
        Check.text("as long as none is locked", Make.labels(x), "1.0.0 1.1.0 2.0.0 3.0.0 4.0.0");
        x.undo();
        x.undo();
        x.insert(1, 0, 1, -1);
        Check.text("none is locked again", Make.labels(x), "1.0.0 2.0.0 3.0.0 4.0.0 5.0.0");
        ScriptPages y = Make.of("h1;");
        y.lockScenes();
        y.insert(0, 0, 1, -1);
        y.insert(0, 0, 1, -1);
        Check.text("only the last is locked", Make.labels(y), "0.1.0 0.2.0 1.0.0");
    }

    static void nextFirstNumber() {
        ScriptPages x = Scripts.locked("h1;h1;");
        x.insert(1, 0, 1, -1);
        Check.text("another first number behind", Make.labels(x), "1.0.0 1.1.0 2.0.0");
        x.lockScenes();
        x.insert(1, 0, 1, -1);
        x.insert(1, 0, 1, -1);
        Check.text("the same first number behind", Make.labels(x), "1.0.0 1.0.1 1.0.2 1.1.0 2.0.0");
        x.lockScenes();
        x.insert(3, 0, 1, -1);
        Check.text("from a third number on", Make.labels(x), "1.0.0 1.0.1 1.0.2 1.0.3 1.1.0 2.0.0");
        x.insert(5, 0, 1, -1);
        x.insert(7, 0, 1, -1);
        Check.text("from a second number on", Make.labels(x),
                "1.0.0 1.0.1 1.0.2 1.0.3 1.1.0 1.2.0 2.0.0 2.1.0");
        x.lockScenes();
        x.insert(8, 0, 1, -1);
        x.insert(5, 0, 1, -1);
        Check.text("behind a second number, and no locked scene behind", Make.labels(x),
                "1.0.0 1.0.1 1.0.2 1.0.3 1.1.0 1.1.1 1.2.0 2.0.0 2.1.0 2.2.0");
        ScriptPages last = Scripts.locked("h1;");
        last.insert(1, 0, 1, -1);
        last.lockScenes();
        last.insert(1, 0, 1, -1);
        Check.text("the same first number of the last scene", Make.labels(last), "1.0.0 1.0.1 1.1.0");
        ScriptPages y = Scripts.locked("h1;");
        y.insert(0, 0, 1, -1);
        y.lockScenes();
        y.insert(0, 0, 1, -1);
        y.insert(0, 0, 1, -1);
        Check.text("the first number 0 behind", Make.labels(y), "0.0.1 0.0.2 0.1.0 1.0.0");
        y.lockScenes();
        y.insert(2, 0, 1, -1);
        y.insert(4, 0, 1, -1);
        Check.text("and before", Make.labels(y), "0.0.1 0.0.2 0.0.3 0.1.0 0.2.0 1.0.0");
    }
}
