/** Screenplays that a call is made on: empty, full, locked and so on. Each call makes an equal one anew. */
final class Scripts {
    interface Maker {
        ScriptPages make();
    }

    /** In all of these a call with an argument out of range is refused. */
    static final Maker[] ALL = {Scripts::empty, Scripts::one, Scripts::rich, Scripts::full, Scripts::fullText};
    static final Maker[] WITH_ELEMENTS = {Scripts::one, Scripts::rich, Scripts::full, Scripts::fullText};
    static final Maker[] WITH_SCENES = {Scripts::rich, Scripts::full, Scripts::fullText};

    private Scripts() {
    }

    static ScriptPages empty() {
        return new ScriptPages();
    }

    static ScriptPages one() {
        ScriptPages x = new ScriptPages();
        x.insert(0, 1, 70, -1);
        return x;
    }

    /** Locked, open and omitted scenes, page marks, split elements, carried names, a text, four saved states. */
    static ScriptPages rich() {
        ScriptPages x = Make.of(20, "h61;n1;s400;h1;a400;n2;n2;r30;s90;h9;a61;");
        x.lockScenes();
        x.lockPages();
        x.insert(3, 0, 30, -1);
        x.omit(2);
        x.setLength(2, 399);
        x.setPage(21);
        return x;
    }

    /** Sixty elements: twelve scenes of five. */
    static ScriptPages full() {
        return Make.of(20, Make.times(12, "h9;a9;n1;s9;r9;"));
    }

    /** Sixty elements, all of one kind. */
    static ScriptPages sixty(int lines, String item) {
        return Make.of(lines, Make.times(60, item));
    }

    /** Sixty remarks of 16 lines; their text would be too long. */
    static ScriptPages sixtyLong(int lines) {
        ScriptPages x = new ScriptPages();
        x.setPage(lines);
        for (int i = 0; i < 60; i++) {
            x.insert(i, 4, 400, -1);
        }
        return x;
    }

    /** A few elements, and a text of 200 bytes. */
    static ScriptPages fullText() {
        ScriptPages x = Make.of(20, "h1;a400;n1;s400;");
        x.clearText();
        for (int i = 0; i < 40; i++) {
            append(x, "a001;");
        }
        return x;
    }

    /** The labels are 1.0.0, 1.0.1, 1.1.0 and 2.0.0, and all of them are locked: at 1 no heading has a label left. */
    static ScriptPages crowded() {
        ScriptPages x = Make.of("h1;h1;");
        for (int i = 0; i < 2; i++) {
            x.lockScenes();
            x.insert(1, 0, 1, -1);
        }
        x.lockScenes();
        return x;
    }

    static ScriptPages locked(String text) {
        return locked(50, text);
    }

    static ScriptPages locked(int lines, String text) {
        ScriptPages x = Make.of(lines, text);
        x.lockScenes();
        return x;
    }

    static ScriptPages marked(int lines, String text) {
        ScriptPages x = Make.of(lines, text);
        x.lockPages();
        return x;
    }

    /** Appends a text to the one that is there. */
    static void append(ScriptPages x, String text) {
        for (int i = 0; i < text.length(); i++) {
            x.append(text.charAt(i));
        }
    }

    /** Takes back all that is saved. */
    static void forget(ScriptPages x) {
        while (true) {
            try {
                x.undo();
            } catch (IllegalStateException e) {
                return;
            }
        }
    }
}
