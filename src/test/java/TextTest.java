/** Promises 20 to 22: the script text. */
final class TextTest {
    private static final Class<IllegalArgumentException> ARGUMENT = IllegalArgumentException.class;
    private static final Class<IllegalStateException> STATE = IllegalStateException.class;

    private TextTest() {
    }

    private static void promise20() {
        ScriptPages x = new ScriptPages();
        Check.same("20: append(0)", x.append(0), 1);
        Check.same("20: append(127)", x.append(127), 2);
        Check.refuses("20: append(-1)", x, ARGUMENT, () -> x.append(-1));
        Check.refuses("20: append(128)", x, ARGUMENT, () -> x.append(128));
        for (int i = 3; i <= 200; i++) {
            Check.same("20: append", x.append('a'), i);
        }
        Check.refuses("20: a 201st byte", x, STATE, () -> x.append('a'));
        Check.refuses("20: argument ahead of length", x, ARGUMENT, () -> x.append(128));
        Check.refuses("20: it is not undoable", x, STATE, x::undo);
    }

    private static void promise21() {
        ScriptPages x = new ScriptPages();
        x.append('h');
        x.append('1');
        Check.same("21: clearText()", x.clearText(), 2);
        Check.same("21: clearText() again", x.clearText(), 0);
        Check.same("21: append after it", x.append('a'), 1);
        Check.same("21: bytes from before are gone", x.parse(), -11);
        Check.refuses("21: it is not undoable", x, STATE, x::undo);
    }

    private static void wrong(String text, int position) {
        ScriptPages x = Make.of(30, "h1;n1;");
        x.lockScenes();
        x.lockPages();
        x.clearText();
        for (int i = 0; i < text.length(); i++) {
            x.append(text.charAt(i));
        }
        long before = x.digest();
        Check.same("22: parse of " + text, x.parse(), -10 - position);
        Check.same("22: nothing changes by " + text, x.digest(), before);
    }

    private static void wrongTexts() {
        wrong(";", 0);
        wrong(" h1;", 0);
        wrong("H1;", 0);
        wrong("1;", 0);
        wrong("h", 1);
        wrong("h;", 1);
        wrong("hx", 1);
        wrong("h1", 2);
        wrong("h1x", 2);
        wrong("h1,", 2);
        wrong("h123", 4);
        wrong("h1234;", 4);
        wrong("h0000;", 4);
        wrong("h4010", 4);
        wrong("h1:", 2);
        wrong("h1/", 2);
        wrong("h0", 1);
        wrong("h0;", 1);
        wrong("h00x", 1);
        wrong("h000;", 1);
        wrong("h401", 1);
        wrong("h999,", 1);
        wrong("a1;s401;", 4);
        wrong("a1;;", 3);
        wrong("a1; a1;", 3);
        wrong("n", 1);
        wrong("n;", 1);
        wrong("n,", 1);
        wrong("nx1;", 1);
        wrong("n1", 2);
        wrong("n12;", 2);
        wrong("n1x", 2);
        wrong("n1,", 3);
        wrong("n1,;", 3);
        wrong("n1,,", 3);
        wrong("n1,5", 4);
        wrong("n1,5,", 4);
        wrong("n1,0;", 3);
        wrong("n1,401", 3);
        wrong("n1,1234;", 6);
        wrong(Make.times(60, "a1;") + "a", 180);
        wrong(Make.times(60, "a1;") + "x", 180);
        wrong(Make.times(60, "a1;") + "a1;", 180);
    }

    private static void promise22() {
        ScriptPages x = new ScriptPages();
        x.setPage(33);
        Check.same("22: all kinds", Make.parse(x, "h1;a22;n3;n4,5;s333;r004;"), 6);
        int[][] due = {{0, 1, -1}, {1, 22, -1}, {2, 10, 3}, {2, 5, 4}, {3, 333, -1}, {4, 4, -1}};
        for (int i = 0; i < due.length; i++) {
            for (int what = 0; what < 3; what++) {
                Check.same("22: element(" + i + ", " + what + ")", x.element(i, what), due[i][what]);
            }
        }
        Check.same("22: L stays", x.value(3), 33);
        x.pagesWith(20);
        Check.same("22: the text stays", x.parse(), 6);
        Check.same("22: L stays behind a question", x.value(3), 33);
        Check.same("22: the text's length", x.clearText(), 25);
        Check.same("22: lengths at the edges", Make.parse(x, "a400;a001;n0,400;n9,001;"), 4);
        Check.same("22: sixty elements", Make.parse(x, Make.times(60, "n1;")), 60);
        Check.same("22: no items", Make.parse(x, ""), 0);
        Check.same("22: no elements then", x.value(0), 0);
        Check.same("22: undoable", x.undo(), 3);
        Check.same("22: the elements from before", x.value(0), 60);
    }

    private static void locksGo() {
        ScriptPages x = Make.of(20, "h1;r400;r400;h1;");
        x.lockScenes();
        x.lockPages();
        x.omit(0);
        x.parse();
        Check.same("22: no locked scenes", x.value(4), 0);
        Check.same("22: no page marks", x.value(5), 0);
        Check.same("22: no omitted scenes", x.scene(0, 4), 0);
        Check.same("22: open labels", x.find(2, 0, 0), 1);
        x.undo();
        Check.same("22: an omitted scene, again", x.scene(0, 4), 1);
        Check.same("22: page marks, again", x.value(5), 2);
    }

    public static void main(String[] args) {
        promise20();
        promise21();
        promise22();
        wrongTexts();
        locksGo();
        Check.end();
    }
}
