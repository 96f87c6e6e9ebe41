/** Promises 8, 12 and 15: how elements are set on pages, locked pages, and used lines. */
final class PagesTest {
    private static final Class<IndexOutOfBoundsException> INDEX = IndexOutOfBoundsException.class;
    private static final Class<IllegalArgumentException> ARGUMENT = IllegalArgumentException.class;

    private PagesTest() {
    }

    /** The places of all elements (page:line+lines), and the used lines of all pages. */
    private static void set(String what, String script, String places, String fills) {
        ScriptPages x = Make.of(20, script);
        Check.text(what, Make.places(x), places);
        Check.text(what + ": used lines", Make.fills(x), fills);
    }

    private static void blankLines() {
        set("blank lines", "h1;h1;a1;n1;s1;r1;", "0:0+1 0:3+1 0:5+1 0:7+1 0:8+1 0:9+1", "10");
        set("no blank lines on an empty page", "r400;r100;h1;", "0:0+16 0:16+4 1:0+1", "20 1");
        set("blank lines behind a rest", "r400;a400;a1;", "0:0+16 0:17+3 1:5+1", "20 6");
    }

    private static void actions() {
        set("an action that fits", "r325;a360;", "0:0+13 0:14+6", "20");
        set("an action that is split", "r325;a400;", "0:0+13 0:14+5", "19 2");
        set("at most n - 2 lines", "r400;a240;", "0:0+16 0:17+2", "19 2");
        set("two lines at least", "r400;r25;a240;", "0:0+16 0:16+1 0:18+2", "20 2");
        set("fewer than two lines", "r400;r50;a240;", "0:0+16 0:16+2 1:0+4", "18 4");
        set("three lines are not split", "r400;r25;a180;", "0:0+16 0:16+1 1:0+3", "17 3");
        set("three lines that fit", "r400;a180;", "0:0+16 0:17+3", "20");
    }

    private static void speeches() {
        set("a speech that fits", "r400;s140;", "0:0+16 0:16+4", "20");
        set("a speech that is split", "r375;s400;", "0:0+15 0:15+4", "20 9");
        set("at most n - 2 lines of a speech", "r400;s175;", "0:0+16 0:16+3", "20 3");
        set("and one line is not used", "a400;a400;s140;", "0:0+7 0:8+7 0:15+4", "19");
        set("the last line but one", "r375;r25;r25;s140;", "0:0+15 0:15+1 0:16+1 0:17+2", "20 3");
        set("three lines at least", "a400;a400;a120;s140;", "0:0+7 0:8+7 0:16+2 1:0+4", "18 4");
        set("three lines are not split", "a400;a400;a120;s105;", "0:0+7 0:8+7 0:16+2 1:0+3", "18 3");
        set("n - 1 lines free", "a400;a360;s210;", "0:0+7 0:8+6 0:14+6", "20");
        set("n - 1 lines free, sign and name", "a400;a360;s245;", "0:0+7 0:8+6 0:14+5", "20 3");
    }

    private static void staysTogether() {
        set("a heading alone at the end", "r400;h1;", "0:0+16 0:18+1", "19");
        set("a heading and an action", "r400;h1;a1;", "0:0+16 1:0+1 1:2+1", "16 3");
        set("a heading and a heading", "r400;h1;h1;", "0:0+16 0:18+1 1:0+1", "19 1");
        set("a heading, a name and its speech", "a400;a300;h1;n1;s36;", "0:0+7 0:8+5 0:15+1 0:17+1 0:18+2", "20");
        set("needs run on", "a400;a300;h1;n1;s71;", "0:0+7 0:8+5 1:0+1 1:2+1 1:3+3", "13 6");
        set("a name alone at the end", "r400;r25;n1;", "0:0+16 0:16+1 0:18+1", "19");
        set("a name and a name", "r400;r50;n1;n1;", "0:0+16 0:16+2 0:19+1 1:0+1", "20 1");
        set("a name and an action", "r400;r50;n1;a1;", "0:0+16 0:16+2 0:19+1 1:0+1", "20 1");
        set("a name and a speech", "r400;r50;n1;s1;", "0:0+16 0:16+2 1:0+1 1:1+1", "18 2");
        set("a name and a remark", "r400;r50;n1;r1;", "0:0+16 0:16+2 1:0+1 1:1+1", "18 2");
        set("a remark and a speech", "a400;a400;r100;s71;", "0:0+7 0:8+7 1:0+4 1:4+3", "15 7");
        set("a remark and an action", "a400;a400;r100;a71;", "0:0+7 0:8+7 0:15+4 1:0+2", "19 2");
        set("a chain longer than a page", "a1;n1;r400;r400;s400;", "0:0+1 1:0+1 2:0+16 3:0+16 3:16+3", "1 1 16 20 10");
        set("the least part of a long action", "a400;a240;h1;a400;", "0:0+7 0:8+4 0:14+1 0:16+4", "20 3");
    }

    private static void omittedHeadings() {
        ScriptPages x = Make.of(20, "r400;h400;h1;");
        Check.text("a long heading", Make.places(x), "0:0+16 1:0+7 1:9+1");
        x.lockScenes();
        x.omit(0);
        Check.text("an omitted heading", Make.places(x), "0:0+16 0:18+1 1:0+1");
        x.insert(2, 1, 1, -1);
        Check.text("an omitted heading stays with the next", Make.places(x), "0:0+16 1:0+1 1:2+1 1:5+1");
    }

    private static void promise8() {
        ScriptPages x = Make.of(20, "a400;a400;a400;s400;a400;");
        Check.text("8: places", Make.places(x), "0:0+7 0:8+7 0:16+4 1:3+12 1:16+4");
        Check.same("8: lockPages", x.lockPages(), 2);
        Check.text("8: marks", Make.marks(x), "1 - - 2 -");
        Check.text("8: a mark begins a page", Make.places(x), "0:0+7 0:8+7 0:16+4 2:0+12 2:13+7");
        Check.text("8: labels", Make.pageLabels(x), "1.0 1.1 2.0");
        Check.text("8: a page without a beginning", Make.page(x, 1), "1 1 3 -1 0");
        Check.same("8: lockPages again", x.lockPages(), 2);
        Check.text("8: marks again", Make.marks(x), "1 - - 2 -");
        x.setPage(60);
        Check.text("8: marks count on long pages", Make.pageLabels(x), "1.0 2.0");
        x.insert(3, 4, 400, -1);
        x.insert(0, 1, 1, -1);
        Check.text("8: ahead of the first mark", Make.pageLabels(x), "0.0 1.0 2.0");
        Check.text("8: marks stay with their elements", Make.marks(x), "- 1 - - - 2 -");
        Check.same("8: new marks", x.lockPages(), 3);
        Check.text("8: new marks by number", Make.marks(x), "1 2 - - - 3 -");
        Check.same("8: lockPages without elements", new ScriptPages().lockPages(), 0);
    }

    private static void marksMove() {
        ScriptPages x = Make.of(20, "r400;r400;a1;r400;h1;");
        x.lockScenes();
        Check.same("8: three marks", x.lockPages(), 3);
        Check.text("8: three marks by number", Make.marks(x), "1 2 - 3 -");
        x.remove(1);
        Check.text("8: the next element gets the mark", Make.marks(x), "1 2 3 -");
        x.remove(1);
        Check.text("8: but none that has one", Make.marks(x), "1 3 -");
        x.remove(0);
        Check.text("8: so 1 is gone, too", Make.marks(x), "3 -");
        Check.text("8: the first page has its label", Make.pageLabels(x), "3.0");
        x.remove(0);
        Check.text("8: a heading gets a mark", Make.marks(x), "3");
        ScriptPages y = Make.of(20, "r400;r400;");
        y.lockPages();
        y.remove(1);
        Check.text("8: no next element", Make.marks(y), "1");
        y.insert(0, 1, 1, -1);
        y.remove(1);
        Check.text("8: no marks are left", Make.marks(y), "-");
        Check.text("8: pages without marks", Make.pageLabels(y), "1.0");
        ScriptPages z = Make.of(20, "h1;r400;r400;a9;h1;h1;");
        z.lockScenes();
        z.lockPages();
        Check.text("8: marks of a scene", Make.marks(z), "1 2 3 - 4 -");
        z.omit(0);
        Check.text("8: marks of an omitted scene", Make.marks(z), "1 4 -");
        z.insert(1, 4, 1, -1);
        z.insert(1, 4, 1, -1);
        Check.text("8: new elements have no mark", Make.marks(z), "1 - - 4 -");
        ScriptPages w = Make.of(20, "h1;r400;r400;h1;");
        w.lockScenes();
        w.lockPages();
        Check.text("8: marks ahead of a heading", Make.marks(w), "1 2 3 -");
        w.omit(0);
        Check.text("8: the last one moves to it", Make.marks(w), "1 3");
    }

    private static void needsEndAtMarks() {
        ScriptPages x = Make.of(20, "r400;h1;a1;");
        x.lockPages();
        x.insert(0, 1, 1, -1);
        Check.text("8: marks begin pages", Make.places(x), "0:0+1 1:0+16 2:0+1 2:2+1");
        ScriptPages y = Make.of(20, "r400;h1;h1;a1;");
        Check.text("8: a heading behind a heading", Make.places(y), "0:0+16 0:18+1 1:0+1 1:2+1");
        y.lockPages();
        y.remove(2);
        Check.text("8: a heading does not need a marked action", Make.places(y), "0:0+16 0:18+1 1:0+1");
        ScriptPages z = Make.of(20, "r400;r50;n1;h1;s71;");
        z.lockPages();
        Check.text("8: a name ahead of a mark", Make.marks(z), "1 - - 2 -");
        z.remove(3);
        Check.text("8: a name does not need a marked speech", Make.places(z), "0:0+16 0:16+2 0:19+1 1:0+3");
    }

    private static void promise12() {
        ScriptPages x = Make.of(20, "h1;n1;s400;a1;h1;r400;");
        Check.text("12: page 0", Make.page(x, 0), "1 0 17 0 4");
        Check.text("12: page 1", Make.page(x, 1), "2 0 17 4 2");
        ScriptPages y = Make.of(20, "r400;s400;");
        Check.text("12: the sign counts", Make.page(y, 0), "1 0 20 0 2");
        Check.text("12: a carried name counts", Make.page(y, 1), "2 0 10 -1 0");
        Check.refuses("12: page(-1)", x, INDEX, () -> x.page(-1, 5));
        Check.refuses("12: page(2)", x, INDEX, () -> x.page(2, 5));
        Check.refuses("12: what -1", x, ARGUMENT, () -> x.page(0, -1));
        Check.refuses("12: what 5", x, ARGUMENT, () -> x.page(1, 5));
        ScriptPages none = new ScriptPages();
        Check.refuses("12: no pages", none, INDEX, () -> none.page(0, 0));
        ScriptPages most = Make.of(20, "");
        for (int i = 0; i < 60; i++) {
            most.insert(i, 4, 400, -1);
        }
        Check.same("12: sixty pages", most.value(2), 60);
        Check.text("12: the last one", Make.page(most, 59), "60 0 16 59 1");
    }

    private static void promise15() {
        Check.sameDouble("15: without pages", new ScriptPages().used(), 0.0);
        Check.sameDouble("15: a full page", Make.of(20, "r400;r100;").used(), 1.0);
        Check.sameDouble("15: a third", Make.of(60, "r400;r100;").used(), 20.0 / 60.0);
        Check.sameDouble("15: two pages", Make.of(20, "r400;s400;").used(), 30.0 / 40.0);
        ScriptPages fewer = Make.of(20, "r400;r400;r400;");
        fewer.remove(0);
        fewer.remove(0);
        Check.sameDouble("15: pages that are gone do not count", fewer.used(), 16.0 / 20.0);
        Check.sameDouble("15: a seventh or so", Make.of(49, "a400;").used(), 7.0 / 49.0);
    }

    public static void main(String[] args) {
        blankLines();
        actions();
        speeches();
        staysTogether();
        omittedHeadings();
        promise8();
        marksMove();
        needsEndAtMarks();
        promise12();
        promise15();
        Check.end();
    }
}
