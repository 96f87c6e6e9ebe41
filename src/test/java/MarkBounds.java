/** Boundary cases of "Locking pages". */
final class MarkBounds {
    private MarkBounds() {
    }

    static void locking() {
        ScriptPages none = new ScriptPages();
        Check.same("no pages to lock", none.lockPages(), 0);
        Check.same("no page marks", none.value(5), 0);
        ScriptPages x = Make.of(20, "a400;a400;a400;s400;a400;");
        Check.text("a page begins with a rest", Make.places(x), "0:0+7 0:8+7 0:16+4 1:3+12 1:16+4");
        Check.same("the last page is a rest alone", x.page(2, 3), -1);
        Check.same("two marks", x.lockPages(), 2);
        Check.text("the second one behind the rest", Make.marks(x), "1 - - 2 -");
        Check.same("a page on which no element begins", x.page(1, 4), 0);
        Check.same("is passed over", x.lockPages(), 2);
        Check.text("without using a number", Make.marks(x), "1 - - 2 -");
        x.insert(3, 4, 400, -1);
        x.insert(0, 1, 1, -1);
        Check.same("with new elements", x.lockPages(), 4);
        Check.text("numbered from 1 on again", Make.marks(x), "1 2 - - 3 4 -");
        ScriptPages removed = Scripts.marked(20, "r400;r400;r400;");
        removed.remove(0);
        Check.text("a number is gone", Make.marks(removed), "2 3");
        removed.setPage(60);
        Check.same("the pages as they were", removed.lockPages(), 2);
        Check.text("numbers without a gap", Make.marks(removed), "1 2");
        ScriptPages most = Scripts.sixtyLong(20);
        Check.same("sixty marks", most.lockPages(), 60);
        Check.same("the sixtieth", most.element(59, 5), 60);
    }

    static void withoutMarks() {
        Check.text("pages without marks", Make.pageLabels(Make.of(20, "r400;s400;a400;r400;")), "1.0 2.0 3.0");
        ScriptPages most = Scripts.sixtyLong(20);
        Check.same("the last of sixty pages", most.page(59, 0), 60);
        Check.same("its second number", most.page(59, 1), 0);
        ScriptPages x = Scripts.marked(20, "r400;r400;");
        x.insert(0, 1, 1, -1);
        Check.text("with marks", Make.pageLabels(x), "0.0 1.0 2.0");
        x.remove(1);
        Check.text("with one mark", Make.pageLabels(x), "0.0 2.0");
        x.remove(1);
        Check.text("without marks again", Make.pageLabels(x), "1.0");
        x.insert(1, 4, 400, -1);
        x.insert(2, 4, 400, -1);
        Check.text("as long as there are none", Make.pageLabels(x), "1.0 2.0 3.0");
    }

    static void withMarks() {
        ScriptPages x = Scripts.marked(20, "r400;s400;a400;");
        Check.text("marks behind a rest", Make.marks(x), "1 - 2");
        Check.text("a page that begins with a rest", Make.pageLabels(x), "1.0 1.1 2.0");
        x.insert(0, 4, 400, -1);
        Check.text("the first page without a mark", Make.pageLabels(x), "0.0 1.0 1.1 2.0");
        x.insert(0, 4, 400, -1);
        Check.text("two pages without a mark", Make.pageLabels(x), "0.0 0.1 1.0 1.1 2.0");
        x.insert(5, 4, 400, -1);
        x.insert(5, 4, 400, -1);
        x.insert(4, 4, 400, -1);
        Check.text("more pages between and behind", Make.pageLabels(x), "0.0 0.1 1.0 1.1 1.2 2.0 2.1 2.2");
        x.remove(2);
        Check.text("the mark goes to a speech", Make.marks(x), "- - 1 - 2 - -");
        Check.text("its page begins with the speech", Make.pageLabels(x), "0.0 0.1 1.0 1.1 2.0 2.1 2.2");
        ScriptPages gap = Scripts.marked(20, "r400;r400;r400;r400;");
        gap.remove(1);
        Check.text("numbers with a gap", Make.pageLabels(gap), "1.0 3.0 4.0");
        gap.remove(0);
        Check.text("numbers that begin with another one", Make.pageLabels(gap), "3.0 4.0");
    }

    static void markMoves() {
        ScriptPages x = Scripts.marked(20, "r400;r400;a1;r400;h1;");
        Check.text("marks", Make.marks(x), "1 2 - 3 -");
        x.remove(1);
        Check.text("to the next one", Make.marks(x), "1 2 3 -");
        x.remove(1);
        Check.text("which has one", Make.marks(x), "1 3 -");
        x.remove(2);
        Check.text("one without a mark", Make.marks(x), "1 3");
        x.remove(1);
        Check.text("no next one", Make.marks(x), "1");
        x.remove(0);
        Check.same("no elements", x.value(5), 0);
        x.insert(0, 1, 1, -1);
        Check.text("no mark is left over", Make.marks(x), "-");
        ScriptPages heading = Scripts.marked(20, "r400;h1;");
        heading.remove(0);
        Check.text("to a heading", Make.marks(heading), "1");
        omitMovesMarks();
    }

    private static void omitMovesMarks() {
        ScriptPages x = Scripts.locked(20, "h1;r400;r400;h1;");
        x.lockPages();
        Check.text("marks of two scenes", Make.marks(x), "1 2 3 -");
        x.omit(0);
        Check.text("omitted one after the other, the last mark goes on", Make.marks(x), "1 3");
        Check.same("two marks", x.value(5), 2);
        ScriptPages y = Scripts.locked(20, "h1;r400;r400;a9;h1;h1;");
        y.lockPages();
        Check.text("marks ahead of a mark", Make.marks(y), "1 2 3 - 4 -");
        y.omit(0);
        Check.text("the next heading has one", Make.marks(y), "1 4 -");
        ScriptPages z = Scripts.locked(20, "h1;r400;r400;");
        z.lockPages();
        z.omit(0);
        Check.text("no next heading", Make.marks(z), "1");
        ScriptPages only = Scripts.locked(20, "r400;r75;h1;h1;");
        only.lockPages();
        Check.text("the mark of a heading", Make.marks(only), "1 - 2 -");
        only.omit(0);
        Check.text("the heading is not removed", Make.marks(only), "1 - 2 -");
    }
}
