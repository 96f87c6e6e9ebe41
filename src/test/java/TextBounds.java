/** Boundary cases of "Script text", and of promises 20 to 22. */
final class TextBounds {
    private static final String[] ITEMS = {"h1;", "a400;", "n0;", "n9,400;", "s001;", "r99;"};

    private TextBounds() {
    }

    private static void good(String text, int elements) {
        Check.same("parse of " + text, Make.parse(new ScriptPages(), text), elements);
    }

    /** The text is refused at this position, on an empty script and on one that has all that a parse would drop. */
    private static void wrong(String text, int position) {
        for (Scripts.Maker maker : new Scripts.Maker[] {Scripts::empty, Scripts::rich}) {
            ScriptPages x = maker.make();
            x.clearText();
            Scripts.append(x, text);
            String before = Answers.of(x);
            Check.same("parse of " + text, x.parse(), -10 - position);
            Check.text("all answers behind " + text, Answers.of(x), before);
            Check.same("the text stays: " + text, x.parse(), -10 - position);
        }
    }

    static void twoHundredBytes() {
        ScriptPages x = new ScriptPages();
        for (int i = 1; i <= 200; i++) {
            Check.same("byte " + i, x.append("a001;".charAt((i - 1) % 5)), i);
        }
        Check.same("a text of 200 bytes", x.parse(), 40);
        Refusal.on("a 201st byte", Scripts::fullText, Refusal.STATE, y -> y.append('a'));
        wrong(Make.times(39, "a001;") + "a001", 199);
        wrong(Make.times(39, "a001;") + "n1,40", 200);
        wrong(Make.times(39, "a001;") + "a001a", 199);
        wrong(Make.times(39, "a001;") + "a401;", 196);
    }

    static void items() {
        String[] one = {"h1;", "a1;", "s1;", "r1;"};
        int[] kinds = {0, 1, 3, 4};
        String[] lengths = {"1", "01", "001", "9", "10", "099", "99", "100", "399", "400"};
        for (int i = 0; i < one.length; i++) {
            for (String length : lengths) {
                ScriptPages x = Make.of(one[i].charAt(0) + length + ";");
                Check.same("kind of " + one[i], x.element(0, 0), kinds[i]);
                Check.same("length " + length, x.element(0, 1), Integer.parseInt(length));
                Check.same("no person", x.element(0, 2), -1);
            }
            wrong(one[i].charAt(0) + ";", 1);
            wrong(one[i].charAt(0) + "1", 2);
        }
        for (int person = 0; person <= 9; person++) {
            ScriptPages x = Make.of("n" + person + ";n" + person + ",400;n" + person + ",001;");
            int[] due = {10, 400, 1};
            for (int i = 0; i < 3; i++) {
                Check.same("kind of n" + person, x.element(i, 0), 2);
                Check.same("person of n" + person, x.element(i, 2), person);
                Check.same("length of n" + person, x.element(i, 1), due[i]);
            }
        }
        for (int letter = 0; letter < 128; letter++) {
            if ("hansr".indexOf(letter) < 0) {
                wrong((char) letter + "1;", 0);
            }
        }
    }

    static void noSpaces() {
        good("", 0);
        good("a1;", 1);
        wrong(" ", 0);
        wrong(" a1;", 0);
        wrong("a 1;", 1);
        wrong("a1 ;", 2);
        wrong("a1; ", 3);
        wrong("n 1;", 1);
        wrong("n1 ;", 2);
        wrong("n1, 1;", 3);
        wrong("a1;\n", 3);
        ScriptPages x = Scripts.rich();
        Check.same("no items on a script", Make.parse(x, ""), 0);
        Check.same("no elements then", x.value(0), 0);
    }

    static void errorPosition() {
        wrong("h", 1);
        wrong("h12", 3);
        wrong("n", 1);
        wrong("n1", 2);
        wrong("n1,", 3);
        wrong("n1,40", 5);
        wrong("a1;h", 4);
        wrong(";", 0);
        wrong("x", 0);
        wrong("a1;;", 3);
        wrong("aa;", 1);
        wrong("a1,1;", 2);
        wrong("a1a", 2);
        wrong("a1:", 2);
        wrong("a1/", 2);
        wrong("n,1;", 1);
        wrong("n;", 1);
        wrong("n11;", 2);
        wrong("n1;1", 3);
        wrong("n1,;", 3);
        wrong("n1,1,1;", 4);
        wrong("a1234", 4);
        wrong("a0001;", 4);
        wrong("a9999", 4);
        wrong("a4000;", 4);
        wrong("n1,0001;", 6);
        wrong("n1,9999;", 6);
        wrong("n1,0x", 3);
        wrong("a1;x;y;", 3);
        good(Make.times(60, "a1;"), 60);
        wrong(Make.times(60, "a1;") + "a", 180);
        wrong(Make.times(60, "a1;") + "n1;", 180);
        wrong(Make.times(60, "a1;") + ";", 180);
        wrong(Make.times(59, "a1;") + "a0;", 178);
    }

    static void lengthError() {
        wrong("h0", 1);
        wrong("h0;", 1);
        wrong("a00x", 1);
        wrong("s000;", 1);
        wrong("r401", 1);
        wrong("r401;", 1);
        wrong("r401,", 1);
        wrong("r401 ", 1);
        wrong("h999a", 1);
        wrong("n1,0", 3);
        wrong("n1,0;", 3);
        wrong("n1,401;", 3);
        wrong("n1,401,", 3);
        wrong("n1,999", 3);
        wrong("a1;a0;x", 4);
        wrong("a4010;", 4);
        for (int letter = 0; letter < 128; letter++) {
            boolean digit = letter >= '0' && letter <= '9';
            wrong("a401" + (char) letter, digit ? 4 : 1);
            wrong("n1,000" + (char) letter, digit ? 6 : 3);
        }
        good("h400;a1;n1,400;s001;", 4);
    }

    // ---- promise 20

    static void appendValue() {
        ScriptPages x = new ScriptPages();
        for (int value = 0; value <= 127; value++) {
            Check.same("append(" + value + ")", x.append(value), value + 1);
        }
        ScriptPages y = new ScriptPages();
        y.append(0);
        Check.same("a byte 0 stands there", y.parse(), -10);
        y.clearText();
        y.append('a');
        y.append('1');
        y.append(127);
        Check.same("a byte 127 stands there", y.parse(), -12);
    }

    static void appendReturns() {
        ScriptPages x = new ScriptPages();
        Check.same("the first byte", x.append('a'), 1);
        for (int i = 2; i < 200; i++) {
            x.append('a');
        }
        Check.same("the last byte", x.append('a'), 200);
        x.clearText();
        Check.same("the first byte again", x.append('a'), 1);
    }

    static void appendArgumentRefused() {
        Refusal.outside("append", Scripts.ALL, Refusal.ARGUMENT, 0, 127, ScriptPages::append);
    }

    static void appendStateRefused() {
        ScriptPages x = Scripts.fullText();
        x.clearText();
        Check.same("room again", x.append('a'), 1);
        for (int value : new int[] {0, 'a', 127}) {
            Refusal.on("append(" + value + ") to 200 bytes", Scripts::fullText, Refusal.STATE, y -> y.append(value));
        }
    }

    // ---- promise 21

    static void clearTextEmpties() {
        ScriptPages x = Scripts.fullText();
        x.clearText();
        Check.same("an empty text has no items", x.parse(), 0);
        Scripts.append(x, "h");
        Check.same("the bytes from before are gone", x.parse(), -11);
        Refusal.on("clearText is not undoable", () -> {
            ScriptPages y = new ScriptPages();
            y.append('a');
            y.clearText();
            return y;
        }, Refusal.STATE, ScriptPages::undo);
    }

    static void clearTextReturns() {
        ScriptPages x = new ScriptPages();
        Check.same("an empty text", x.clearText(), 0);
        x.append('a');
        Check.same("one byte", x.clearText(), 1);
        Check.same("emptied already", x.clearText(), 0);
        Check.same("200 bytes", Scripts.fullText().clearText(), 200);
    }

    // ---- promise 22

    static void parseMakes() {
        ScriptPages x = Scripts.rich();
        x.setPage(33);
        Check.same("locked scenes before", x.value(4), 3);
        Check.same("page marks before", x.value(5), 3);
        x.parse();
        ScriptPages y = Make.of(33, "h61;n1;s400;h1;a400;n2;n2;r30;s90;h9;a61;");
        Check.text("values", Make.values(x), Make.values(y));
        Check.text("locked scenes, page marks", Make.values(x), "11 3 2 33 0 0 1 0");
        for (int i = 0; i < 11; i++) {
            Check.text("element " + i, Make.element(x, i), Make.element(y, i));
        }
        for (int s = 0; s < 3; s++) {
            Check.text("scene " + s, Make.scene(x, s), Make.scene(y, s));
            Check.same("omitted scene " + s, x.scene(s, 4), 0);
            Check.same("label of scene " + s, x.find(s + 1, 0, 0), s);
        }
        Check.text("pages", Make.pageLabels(x), "1.0 2.0");
        x.pagesWith(20);
        x.parse();
        Check.same("L stays, whatever was asked for", x.value(3), 33);
        ScriptPages empty = Scripts.full();
        Check.same("no items", Make.parse(empty, ""), 0);
        Check.text("a script without elements", Make.values(empty), "0 0 0 20 0 0 0 0");
    }

    static void parseKeepsText() {
        ScriptPages x = Make.of("a1;n1;");
        Check.same("parse again", x.parse(), 2);
        Check.same("the length", x.append('h'), 7);
        Check.same("an error", x.parse(), -17);
        Check.same("the length behind an error", x.append('1'), 8);
        Check.same("the end", x.append(';'), 9);
        Check.same("parse at last", x.parse(), 3);
        Check.same("all of it", x.clearText(), 9);
    }

    static void parseUndoable() {
        ScriptPages x = new ScriptPages();
        Scripts.append(x, "a1;");
        x.parse();
        Check.same("saved", x.undo(), 0);
        Check.same("no elements", x.value(0), 0);
        x.append('x');
        Check.same("an error", x.parse(), -13);
        Check.text("not saved", Refusal.outcome(x, ScriptPages::undo), "IllegalStateException");
        x.clearText();
        Check.same("nothing changes", x.parse(), 0);
        Check.same("but it is saved", x.undo(), 0);
    }

    static void parseReturns() {
        good("", 0);
        good("h1;", 1);
        good(Make.times(60, "n9;"), 60);
        wrong("x", 0);
        wrong("a", 1);
        wrong(Make.times(39, "a001;") + "n1,40", 200);
        StringBuilder text = new StringBuilder();
        for (int i = 0; i < ITEMS.length; i++) {
            text.append(ITEMS[i]);
            good(text.toString(), i + 1);
        }
    }
}
