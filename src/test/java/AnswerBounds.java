/** Boundary cases of promises 9 to 15: the answers about elements, scenes and pages. */
final class AnswerBounds {
    private AnswerBounds() {
    }

    /** Two locked scenes, one of them omitted, an open one, two marks, a carried name, a split speech. */
    private static ScriptPages mixed() {
        ScriptPages x = Scripts.locked(20, "h1;n1;n1;a400;s400;h1;a1;");
        x.lockPages();
        x.omit(1);
        x.insert(6, 0, 1, -1);
        return x;
    }

    // ---- promise 9

    static void valueWhat() {
        ScriptPages x = mixed();
        int[] due = {7, 3, 3, 20, 2, 2, 1, 1};
        for (int what = 0; what <= 7; what++) {
            Check.same("value(" + what + ")", x.value(what), due[what]);
        }
        x.clearText();
        x.parse();
        Check.text("without elements", Make.values(x), "0 0 0 20 0 0 0 0");
        Check.text("sixty elements", Make.values(Scripts.full()), "60 12 6 20 0 0 0 0");
        ScriptPages most = Scripts.sixtyLong(20);
        most.lockPages();
        Check.text("sixty pages", Make.values(most), "60 0 60 20 0 60 0 0");
        Check.text("names that are carried on", Make.values(Make.of("h1;" + Make.times(59, "n1;"))),
                "60 1 3 50 0 0 58 0");
    }

    static void valueRefused() {
        Refusal.outside("value", Scripts.ALL, Refusal.ARGUMENT, 0, 7, ScriptPages::value);
        Refusal.on("value(9)", Scripts::rich, Refusal.ARGUMENT, x -> x.value(9));
    }

    // ---- promise 10

    static void elementIndex() {
        ScriptPages x = new ScriptPages();
        for (int i = 0; i < 60; i++) {
            x.insert(i, 1, i + 1, -1);
            Check.same("element " + i, x.element(i, 1), i + 1);
            Check.same("element 0", x.element(0, 1), 1);
        }
    }

    static void elementWhat() {
        ScriptPages x = mixed();
        Check.text("a heading", Make.element(x, 0), "0 1 -1 1 0 1 0 0 1 0");
        Check.text("a name", Make.element(x, 1), "2 10 1 1 0 -1 0 2 1 0");
        Check.text("a name that is carried on", Make.element(x, 2), "2 10 1 1 0 -1 0 4 1 1");
        Check.text("an action", Make.element(x, 3), "1 400 -1 7 0 -1 0 6 7 0");
        Check.text("a speech that is split", Make.element(x, 4), "3 400 -1 12 0 -1 0 13 6 0");
        Check.text("an omitted heading", Make.element(x, 5), "0 1 -1 1 1 2 2 0 1 0");
        ScriptPages y = Make.of(20, "n0;a1;r400;s140;");
        Check.text("no scene", Make.element(y, 0), "2 10 0 1 -1 -1 0 0 1 0");
        Check.text("the first line of a page", Make.element(y, 2), "4 400 -1 16 -1 -1 1 0 16 0");
        Check.text("the last lines of a page", Make.element(y, 3), "3 140 -1 4 -1 -1 1 16 4 0");
        ScriptPages z = Make.of(20, "a400;a400;a180;r1;");
        Check.text("the last line of a page", Make.element(z, 3), "4 1 -1 1 -1 -1 0 19 1 0");
        ScriptPages most = Scripts.marked(20, Make.times(40, "n1;") + Make.times(16, "r400;"));
        Check.same("the last page", most.element(55, 6), 20);
        Check.same("the last mark", most.element(55, 5), 21);
        Check.same("no scene for sixty", Scripts.sixty(20, "n9;").element(59, 4), -1);
        Check.same("scene 59", Scripts.sixty(20, "h1;").element(59, 4), 59);
    }

    static void elementIndexRefused() {
        Refusal.outside("element", Scripts::one, Refusal.INDEX, 0, 0, (x, i) -> x.element(i, 0));
        Refusal.outside("element", Scripts::full, Refusal.INDEX, 0, 59, (x, i) -> x.element(i, 9));
        Refusal.outside("element", Scripts::rich, Refusal.INDEX, 0, 6, (x, i) -> x.element(i, 5));
        Refusal.on("element 0 of none", Scripts::empty, Refusal.INDEX, x -> x.element(0, 0));
    }

    static void elementWhatRefused() {
        Refusal.outside("what of element", Scripts.WITH_ELEMENTS, Refusal.ARGUMENT, 0, 9,
                (x, what) -> x.element(0, what));
    }

    // ---- promise 11

    static void sceneNumber() {
        ScriptPages x = Scripts.sixty(50, "h1;");
        for (int s = 0; s < 60; s++) {
            Check.same("heading of scene " + s, x.scene(s, 5), s);
        }
        Check.same("the only scene", Make.of("a1;a1;h1;").scene(0, 5), 2);
    }

    static void sceneWhat() {
        ScriptPages x = mixed();
        Check.text("a locked scene", Make.scene(x, 0), "1 0 0 1 0 0 5 22 9 0");
        Check.text("an omitted scene", Make.scene(x, 1), "2 0 0 1 1 5 1 1 1 2");
        Check.text("an open scene", Make.scene(x, 2), "2 1 0 0 0 6 1 1 1 2");
        ScriptPages long60 = Make.of(20, "h400;" + Make.times(35, "r400;"));
        Check.text("a long scene", Make.scene(long60, 0), "1 0 0 0 0 0 36 567 227 0");
        ScriptPages eighths = Make.of(56, "h1;a360;h1;a400;");
        Check.same("one eighth, even", eighths.scene(0, 8), 1);
        Check.same("one eighth and a line", eighths.scene(1, 8), 2);
        eighths.setPage(60);
        Check.same("one eighth of 60", eighths.scene(1, 8), 2);
        eighths.setPage(20);
        Check.same("eighths of 20", eighths.scene(1, 8), 4);
        eighths.setPage(21);
        Check.same("eighths of 21, one of them begun", eighths.scene(1, 8), 4);
        ScriptPages omitted = Scripts.locked(56, "h400;a1;");
        Check.same("lines of a heading", omitted.scene(0, 7), 8);
        omitted.omit(0);
        Check.same("lines of an omitted heading", omitted.scene(0, 7), 1);
        ScriptPages apart = Make.of(20, "h1;r400;a1;h1;h1;");
        Check.same("the page of the first heading", apart.scene(0, 9), 0);
        Check.same("the page of the second heading", apart.scene(1, 9), 1);
        Check.same("and of the third", apart.scene(2, 9), 1);
    }

    static void sceneIndexRefused() {
        Refusal.outside("scene", Scripts::rich, Refusal.INDEX, 0, 3, (x, s) -> x.scene(s, 0));
        Refusal.outside("scene", Scripts::full, Refusal.INDEX, 0, 11, (x, s) -> x.scene(s, 9));
        Refusal.on("scene 0 of none", Scripts::empty, Refusal.INDEX, x -> x.scene(0, 0));
        Refusal.on("scene 0 without headings", Scripts::one, Refusal.INDEX, x -> x.scene(0, 0));
        Refusal.on("scene -1 ahead of the first heading", () -> Make.of("a1;h1;"), Refusal.INDEX, x -> x.scene(-1, 6));
    }

    static void sceneWhatRefused() {
        Refusal.outside("what of scene", Scripts.WITH_SCENES, Refusal.ARGUMENT, 0, 9, (x, what) -> x.scene(0, what));
    }

    // ---- promise 12

    static void pageNumber() {
        ScriptPages x = Scripts.sixtyLong(20);
        for (int p = 0; p < 60; p++) {
            Check.same("first element of page " + p, x.page(p, 3), p);
        }
        Check.same("the only page", Make.of("a1;").page(0, 3), 0);
    }

    static void pageWhat() {
        ScriptPages x = mixed();
        Check.text("a page with a split speech", Make.page(x, 0), "1 0 20 0 5");
        Check.text("a page with a rest alone", Make.page(x, 1), "1 1 7 -1 0");
        Check.text("a page that a mark begins", Make.page(x, 2), "2 0 4 5 2");
        ScriptPages y = Make.of(20, "r400;s400;");
        Check.text("the sign counts", Make.page(y, 0), "1 0 20 0 2");
        Check.text("a carried name counts, and no element begins", Make.page(y, 1), "2 0 10 -1 0");
        ScriptPages full = Make.of(20, "r400;r100;");
        Check.text("a full page", Make.page(full, 0), "1 0 20 0 2");
        ScriptPages most = Make.of(60, Make.times(60, "r1;"));
        Check.text("sixty elements on a page", Make.page(most, 0), "1 0 60 0 60");
        ScriptPages blank = Make.of(20, "a1;a1;h1;");
        Check.text("blank lines count", Make.page(blank, 0), "1 0 6 0 3");
        ScriptPages action = Make.of(20, "r400;a240;n1;");
        Check.text("lines behind a split do not", Make.page(action, 0), "1 0 19 0 2");
        Check.text("no name ahead of the rest of an action", Make.page(action, 1), "2 0 4 2 1");
    }

    static void pageIndexRefused() {
        Refusal.outside("page", Scripts::one, Refusal.INDEX, 0, 0, (x, p) -> x.page(p, 0));
        Refusal.outside("page", Scripts::full, Refusal.INDEX, 0, 5, (x, p) -> x.page(p, 4));
        Refusal.outside("page", () -> Scripts.sixtyLong(20), Refusal.INDEX, 0, 59, (x, p) -> x.page(p, 2));
        Refusal.on("page 0 of none", Scripts::empty, Refusal.INDEX, x -> x.page(0, 0));
        Refusal.on("a page that is gone", () -> {
            ScriptPages x = Make.of(20, "r400;r400;");
            x.remove(1);
            return x;
        }, Refusal.INDEX, x -> x.page(1, 0));
    }

    static void pageWhatRefused() {
        Refusal.outside("what of page", Scripts.WITH_ELEMENTS, Refusal.ARGUMENT, 0, 4, (x, what) -> x.page(0, what));
    }

    // ---- promise 13

    static void findScene() {
        ScriptPages x = Scripts.crowded();
        Check.same("1.0.0", x.find(1, 0, 0), 0);
        Check.same("1.0.1", x.find(1, 0, 1), 1);
        Check.same("1.1.0", x.find(1, 1, 0), 2);
        Check.same("2.0.0", x.find(2, 0, 0), 3);
        x.insert(0, 0, 1, -1);
        Check.same("an open scene", x.find(0, 1, 0), 0);
        x.omit(4);
        Check.same("an omitted scene", x.find(2, 0, 0), 4);
        ScriptPages most = Scripts.sixty(50, "h1;");
        Check.same("the last of sixty", most.find(60, 0, 0), 59);
    }

    private static int[] far(int number) {
        return new int[] {Integer.MIN_VALUE, Integer.MIN_VALUE + number, number - 65536, number - 256, -1,
            number + 256, number + 65536, Integer.MAX_VALUE};
    }

    static void findFirstNumber() {
        ScriptPages x = Scripts.crowded();
        Check.same("1", x.find(1, 0, 0), 0);
        Check.same("2", x.find(2, 0, 0), 3);
        Check.same("0", x.find(0, 0, 0), -1);
        Check.same("3", x.find(3, 0, 0), -1);
        for (int value : far(1)) {
            Check.same("the first number " + value, x.find(value, 0, 0), -1);
        }
    }

    static void findSecondNumber() {
        ScriptPages x = Scripts.crowded();
        Check.same("0", x.find(1, 0, 0), 0);
        Check.same("1", x.find(1, 1, 0), 2);
        Check.same("2", x.find(1, 2, 0), -1);
        for (int value : far(1)) {
            Check.same("the second number " + value, x.find(1, value, 0), -1);
        }
    }

    static void findThirdNumber() {
        ScriptPages x = Scripts.crowded();
        Check.same("0", x.find(1, 0, 0), 0);
        Check.same("1", x.find(1, 0, 1), 1);
        Check.same("2", x.find(1, 0, 2), -1);
        for (int value : far(1)) {
            Check.same("the third number " + value, x.find(1, 0, value), -1);
        }
    }

    static void findNone() {
        ScriptPages x = Scripts.crowded();
        int[][] others = {{0, 0, 0}, {1, 0, 2}, {1, 1, 1}, {1, 2, 0}, {2, 0, 1}, {2, 1, 0}, {3, 0, 0}, {0, 1, 0},
            {0, 0, 1}, {-1, -1, -1}, {1, 0, -1}, {1, -1, 0}, {-1, 0, 0}};
        for (int[] label : others) {
            Check.same("find(" + label[0] + ", " + label[1] + ", " + label[2] + ")",
                    x.find(label[0], label[1], label[2]), -1);
        }
        Check.same("a 61st of sixty", Scripts.sixty(50, "h1;").find(61, 0, 0), -1);
        Check.same("without scenes", new ScriptPages().find(1, 0, 0), -1);
        Check.same("0.0.0 without scenes", new ScriptPages().find(0, 0, 0), -1);
        Check.same("NONE without scenes", new ScriptPages().find(-1, -1, -1), -1);
        ScriptPages gone = Make.of("h1;h1;");
        gone.remove(1);
        Check.same("a scene that is gone", gone.find(2, 0, 0), -1);
    }

    // ---- promise 14

    static void namesPerson() {
        ScriptPages x = new ScriptPages();
        x.insert(0, 0, 1, -1);
        for (int person = 0; person <= 9; person++) {
            for (int i = 0; i <= person % 5; i++) {
                x.insert(1, 2, 1, person);
            }
        }
        for (int person = 0; person <= 9; person++) {
            Check.same("names of " + person, x.names(person, false), person % 5 + 1);
            Check.same("carried names of " + person, x.names(person, true), person % 5);
        }
    }

    static void namesCarried() {
        ScriptPages x = Make.of("n0;n0;h1;n0;n0;n9;n0;h1;n0;n9;n9;");
        Check.same("all of 0", x.names(0, false), 6);
        Check.same("carried ones of 0", x.names(0, true), 1);
        Check.same("all of 9", x.names(9, false), 3);
        Check.same("carried ones of 9", x.names(9, true), 1);
    }

    static void namesReturns() {
        ScriptPages most = Make.of(Make.times(60, "n9;"));
        Check.same("sixty names", most.names(9, false), 60);
        Check.same("none is carried on", most.names(9, true), 0);
        Check.same("none of another person", most.names(0, false), 0);
        ScriptPages carried = Make.of("h1;" + Make.times(59, "n0;"));
        Check.same("all but the first", carried.names(0, true), 58);
        Check.same("of none", new ScriptPages().names(0, false), 0);
        Check.same("of no names", Make.of("h1;a1;s1;r1;").names(0, true), 0);
        carried.remove(59);
        Check.same("one is gone", carried.names(0, false), 58);
    }

    static void namesRefused() {
        Refusal.outside("names", Scripts.ALL, Refusal.ARGUMENT, 0, 9, (x, person) -> x.names(person, false));
        Refusal.outside("carried names", Scripts.ALL, Refusal.ARGUMENT, 0, 9, (x, person) -> x.names(person, true));
    }

    // ---- promise 15

    static void usedShare() {
        Check.sameDouble("without pages", new ScriptPages().used(), 0.0);
        Check.yes("0.0, not -0.0", 1.0 / new ScriptPages().used() > 0);
        Check.sameDouble("a full page", Make.of(20, "r400;r100;").used(), 1.0);
        Check.sameDouble("a full page of 49", Make.of(49, "r400;r400;r400;r25;").used(), 1.0);
        Check.sameDouble("a line of 60", Make.of(60, "a1;").used(), 1.0 / 60.0);
        Check.sameDouble("a third", Make.of(60, "r400;r100;").used(), 20.0 / 60.0);
        Check.sameDouble("a sign, and a name ahead of a rest", Make.of(20, "r400;s400;").used(), 30.0 / 40.0);
        Check.sameDouble("sixty pages", Scripts.sixtyLong(20).used(), 960.0 / 1200.0);
        Check.sameDouble("seven of 49", Make.of(49, "a400;").used(), 7.0 / 49.0);
        ScriptPages gone = Make.of("a1;");
        gone.remove(0);
        Check.sameDouble("no elements any more", gone.used(), 0.0);
    }
}
