/** Promises 1 to 5, 9, 10 and 14: the elements, their lines, their numbers, and the names carried on. */
final class ElementsTest {
    private static final Class<IndexOutOfBoundsException> INDEX = IndexOutOfBoundsException.class;
    private static final Class<IllegalArgumentException> ARGUMENT = IllegalArgumentException.class;
    private static final Class<IllegalStateException> STATE = IllegalStateException.class;

    private ElementsTest() {
    }

    private static void promise1() {
        ScriptPages x = new ScriptPages();
        Check.text("1: values of a new object", Make.values(x), "0 0 0 50 0 0 0 0");
        Check.same("1: NONE", ScriptPages.NONE, -1);
        Check.same("1: clearText()", x.clearText(), 0);
        Check.refuses("1: undo()", x, STATE, x::undo);
        ScriptPages y = new ScriptPages();
        x.insert(0, 1, 10, -1);
        Check.same("1: another object has elements of its own", y.value(0), 0);
    }

    private static void promise2() {
        ScriptPages x = new ScriptPages();
        Check.same("2: insert", x.insert(0, 1, 60, -1), 1);
        Check.same("2: insert at the end", x.insert(1, 3, 36, -1), 2);
        Check.same("2: insert ahead", x.insert(0, 0, 1, -1), 3);
        Check.same("2: insert between", x.insert(1, 2, 400, 9), 4);
        Check.text("2: the heading", Make.element(x, 0), "0 1 -1 1 0 -1 0 0 1 0");
        Check.text("2: the name", Make.element(x, 1), "2 400 9 1 0 -1 0 2 1 0");
        Check.text("2: the action", Make.element(x, 2), "1 60 -1 1 0 -1 0 4 1 0");
        Check.text("2: the speech", Make.element(x, 3), "3 36 -1 2 0 -1 0 5 2 0");
        Check.refuses("2: insert(-1)", x, INDEX, () -> x.insert(-1, 9, 0, 5));
        Check.refuses("2: insert(5)", x, INDEX, () -> x.insert(5, 9, 0, 5));
        Check.refuses("2: insert(MAX)", x, INDEX, () -> x.insert(Integer.MAX_VALUE, 1, 1, -1));
        Check.refuses("2: kind -1", x, ARGUMENT, () -> x.insert(0, -1, 1, -1));
        Check.refuses("2: kind 5", x, ARGUMENT, () -> x.insert(0, 5, 1, -1));
        Check.refuses("2: length 0", x, ARGUMENT, () -> x.insert(0, 1, 0, -1));
        Check.refuses("2: length 401", x, ARGUMENT, () -> x.insert(0, 1, 401, -1));
        Check.refuses("2: length 0 of a name", x, ARGUMENT, () -> x.insert(0, 2, 0, 1));
        Check.refuses("2: a name without a person", x, ARGUMENT, () -> x.insert(0, 2, 1, -1));
        Check.refuses("2: person 10", x, ARGUMENT, () -> x.insert(0, 2, 1, 10));
        for (int kind = 0; kind < 5; kind++) {
            int k = kind;
            if (k != 2) {
                Check.refuses("2: a person for kind " + k, x, ARGUMENT, () -> x.insert(0, k, 1, 0));
                Check.refuses("2: person -2 for kind " + k, x, ARGUMENT, () -> x.insert(0, k, 1, -2));
            }
        }
    }

    private static void promise2Limits() {
        ScriptPages x = new ScriptPages();
        for (int i = 1; i <= 60; i++) {
            Check.same("2: insert up to 60", x.insert(i / 2, i % 2, i, -1), i);
        }
        Check.refuses("2: a 61st element", x, STATE, () -> x.insert(60, 1, 1, -1));
        Check.refuses("2: index ahead of 60", x, INDEX, () -> x.insert(61, 1, 1, -1));
        Check.refuses("2: argument ahead of 60", x, ARGUMENT, () -> x.insert(60, 1, 401, -1));
        ScriptPages y = Make.of("h1;h1;");
        y.lockScenes();
        y.insert(1, 0, 1, -1);
        y.lockScenes();
        y.insert(1, 0, 1, -1);
        y.lockScenes();
        Check.text("2: the labels", Make.labels(y), "1.0.0 1.0.1 1.1.0 2.0.0");
        Check.refuses("2: a label that is there", y, STATE, () -> y.insert(1, 0, 1, -1));
        Check.refuses("2: argument ahead of labels", y, ARGUMENT, () -> y.insert(1, 0, 1, 3));
        Check.same("2: no heading, no labels", y.insert(1, 1, 1, -1), 5);
        Check.same("2: person 0", new ScriptPages().insert(0, 2, 1, 0), 1);
        Check.same("2: another place", y.insert(3, 0, 1, -1), 6);
        Check.text("2: the labels then", Make.labels(y), "1.0.0 1.0.1 1.0.2 1.1.0 2.0.0");
    }

    private static void promise3() {
        ScriptPages x = Make.of("a1;a2;h3;a4;a5;");
        Check.same("3: remove the first", x.remove(0), 4);
        Check.same("3: its follower", x.element(0, 1), 2);
        Check.same("3: remove the last", x.remove(3), 3);
        Check.same("3: remove an open heading", x.remove(1), 2);
        Check.same("3: what is left", x.element(1, 1), 4);
        ScriptPages y = Make.of("a1;n1;a2;n2;");
        y.remove(0);
        Check.same("3: a person goes with its name", y.element(0, 2), 1);
        Check.same("3: and no action has one", y.element(1, 2), -1);
        Check.same("3: it has no scene then", x.element(1, 4), -1);
        Check.refuses("3: remove(-1)", x, INDEX, () -> x.remove(-1));
        Check.refuses("3: remove(2)", x, INDEX, () -> x.remove(2));
        x.insert(0, 0, 1, -1);
        x.lockScenes();
        Check.refuses("3: a locked heading", x, STATE, () -> x.remove(0));
        x.omit(0);
        Check.refuses("3: an omitted heading", x, STATE, () -> x.remove(0));
        ScriptPages none = new ScriptPages();
        Check.refuses("3: remove without elements", none, INDEX, () -> none.remove(0));
    }

    private static void lines(int kind, int[] lengths, int[] due) {
        ScriptPages x = new ScriptPages();
        x.insert(0, kind, 10, kind == 2 ? 3 : -1);
        for (int i = 0; i < lengths.length; i++) {
            String what = "4: kind " + kind + ", length " + lengths[i];
            Check.same(what, x.setLength(0, lengths[i]), due[i]);
            Check.same(what + " by element", x.element(0, 3), due[i]);
            Check.same(what + " kept", x.element(0, 1), lengths[i]);
        }
    }

    private static void promise4() {
        lines(0, new int[] {1, 60, 61, 120, 121, 360, 361, 400}, new int[] {1, 1, 2, 2, 3, 6, 7, 7});
        lines(1, new int[] {1, 60, 61, 120, 121, 360, 361, 400}, new int[] {1, 1, 2, 2, 3, 6, 7, 7});
        lines(2, new int[] {1, 60, 61, 400}, new int[] {1, 1, 1, 1});
        lines(3, new int[] {1, 35, 36, 70, 71, 385, 386, 400}, new int[] {1, 1, 2, 2, 3, 11, 12, 12});
        lines(4, new int[] {1, 25, 26, 50, 51, 375, 376, 400}, new int[] {1, 1, 2, 2, 3, 15, 16, 16});
        ScriptPages x = Make.of("h100;");
        Check.refuses("4: index 1", x, INDEX, () -> x.setLength(1, 0));
        Check.refuses("4: index -1", x, INDEX, () -> x.setLength(-1, 1));
        Check.refuses("4: length 0", x, ARGUMENT, () -> x.setLength(0, 0));
        Check.refuses("4: length 401", x, ARGUMENT, () -> x.setLength(0, 401));
        x.lockScenes();
        x.omit(0);
        Check.same("4: an omitted heading has 1 line", x.element(0, 3), 1);
        Check.same("4: and keeps it", x.setLength(0, 400), 1);
        Check.same("4: with its new length", x.element(0, 1), 400);
    }

    private static void promise5() {
        ScriptPages x = Make.of("a400;a400;a400;");
        Check.same("5: setPage(20)", x.setPage(20), 50);
        Check.same("5: setPage(60)", x.setPage(60), 20);
        Check.same("5: setPage(60) again", x.setPage(60), 60);
        Check.same("5: L", x.value(3), 60);
        Check.refuses("5: setPage(19)", x, ARGUMENT, () -> x.setPage(19));
        Check.refuses("5: setPage(61)", x, ARGUMENT, () -> x.setPage(61));
        Check.refuses("5: setPage(MIN)", x, ARGUMENT, () -> x.setPage(Integer.MIN_VALUE));
        Check.same("5: pages of 60", x.value(2), 1);
        x.setPage(20);
        Check.same("5: pages of 20", x.value(2), 2);
    }

    private static void promise9() {
        ScriptPages x = Make.of(20, "h1;n1;s10;n1;s400;h1;a400;n2;s9;n2;r1;s400;");
        Check.text("9: values", Make.values(x), "12 2 3 20 0 0 2 1");
        x.lockScenes();
        x.lockPages();
        x.insert(0, 0, 1, -1);
        Check.same("9: scenes", x.value(1), 3);
        Check.same("9: locked scenes", x.value(4), 2);
        Check.same("9: page marks", x.value(5), 2);
        x.omit(1);
        Check.same("9: an omitted scene is locked", x.value(4), 2);
        Check.refuses("9: value(-1)", x, ARGUMENT, () -> x.value(-1));
        Check.refuses("9: value(8)", x, ARGUMENT, () -> x.value(8));
        Check.refuses("9: value(MIN)", x, ARGUMENT, () -> x.value(Integer.MIN_VALUE));
        x.clearText();
        x.parse();
        Check.text("9: values without elements", Make.values(x), "0 0 0 20 0 0 0 0");
    }

    private static void promise10() {
        ScriptPages x = Make.of(20, "n1;h70;n1;r30;s400;n1;a240;");
        Check.text("10: a name without a scene", Make.element(x, 0), "2 10 1 1 -1 -1 0 0 1 0");
        Check.text("10: a heading", Make.element(x, 1), "0 70 -1 2 0 -1 0 3 2 0");
        Check.text("10: a name", Make.element(x, 2), "2 10 1 1 0 -1 0 6 1 0");
        Check.text("10: a remark", Make.element(x, 3), "4 30 -1 2 0 -1 0 7 2 0");
        Check.text("10: a split speech", Make.element(x, 4), "3 400 -1 12 0 -1 0 9 10 0");
        Check.text("10: a name that is carried on", Make.element(x, 5), "2 10 1 1 0 -1 1 4 1 1");
        Check.text("10: an action", Make.element(x, 6), "1 240 -1 4 0 -1 1 6 4 0");
        x.lockPages();
        Check.same("10: its page mark", x.element(0, 5), 1);
        Check.same("10: the next page mark", x.element(5, 5), 2);
        Check.same("10: no page mark", x.element(4, 5), -1);
        Check.refuses("10: element(-1)", x, INDEX, () -> x.element(-1, 10));
        Check.refuses("10: element(7)", x, INDEX, () -> x.element(7, 10));
        Check.refuses("10: what -1", x, ARGUMENT, () -> x.element(0, -1));
        Check.refuses("10: what 10", x, ARGUMENT, () -> x.element(0, 10));
    }

    private static void promise14() {
        ScriptPages x = Make.of("n1;n1;h1;n1;a9;n1;n2;n1;n1;h1;n1;n2;r1;s5;n2;");
        Check.same("14: names of 1", x.names(1, false), 7);
        Check.same("14: carried names of 1", x.names(1, true), 2);
        Check.same("14: names of 2", x.names(2, false), 3);
        Check.same("14: carried names of 2", x.names(2, true), 1);
        Check.same("14: names of 0", x.names(0, false), 0);
        Check.same("14: names of 9", x.names(9, true), 0);
        Check.same("14: all carried names", x.value(6), 3);
        StringBuilder carried = new StringBuilder();
        for (int i = 0; i < x.value(0); i++) {
            carried.append(x.element(i, 9));
        }
        Check.text("14: the carried names", carried.toString(), "000001001000001");
        x.remove(9);
        Check.same("14: one scene out of two", x.names(1, true), 3);
        Check.refuses("14: names(-1)", x, ARGUMENT, () -> x.names(-1, false));
        Check.refuses("14: names(10)", x, ARGUMENT, () -> x.names(10, true));
    }

    public static void main(String[] args) {
        promise1();
        promise2();
        promise2Limits();
        promise3();
        promise4();
        promise5();
        promise9();
        promise10();
        promise14();
        Check.end();
    }
}
