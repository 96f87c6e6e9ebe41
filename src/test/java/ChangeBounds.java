/** Boundary cases of promises 2 to 8: the changes. */
final class ChangeBounds {
    private ChangeBounds() {
    }

    private static String lengths(ScriptPages x) {
        StringBuilder all = new StringBuilder();
        for (int i = 0; i < x.value(0); i++) {
            all.append(i == 0 ? "" : " ").append(x.element(i, 1));
        }
        return all.toString();
    }

    // ---- promise 2

    static void insertAhead() {
        ScriptPages x = new ScriptPages();
        x.insert(0, 1, 1, -1);
        x.insert(0, 1, 2, -1);
        x.insert(2, 1, 3, -1);
        x.insert(1, 1, 4, -1);
        Check.text("ahead, behind, between", lengths(x), "2 4 1 3");
        Check.same("undoable", x.undo(), 3);
        Check.text("behind undo", lengths(x), "2 1 3");
        ScriptPages y = Make.of(Make.times(58, "a1;") + "a8;");
        y.insert(0, 1, 9, -1);
        Check.same("the first of sixty", y.element(0, 1), 9);
        Check.same("the last of sixty", y.element(59, 1), 8);
        ScriptPages z = Scripts.rich();
        z.insert(0, 4, 1, -1);
        Check.same("what is behind keeps its mark", z.element(1, 5), 1);
        Check.same("and its lock", z.scene(0, 3), 1);
        Check.same("the new one has no mark", z.element(0, 5), -1);
    }

    static void insertIndex() {
        for (int index = 0; index <= 3; index++) {
            ScriptPages x = Make.of("a1;a2;a3;");
            Check.same("insert at " + index, x.insert(index, 1, 9, -1), 4);
            Check.same("it stands at " + index, x.element(index, 1), 9);
        }
        Check.same("insert at 0 of none", new ScriptPages().insert(0, 1, 9, -1), 1);
        for (int index : new int[] {0, 58, 59}) {
            ScriptPages x = Make.of(Make.times(59, "a1;"));
            Check.same("insert at " + index + " of 59", x.insert(index, 1, 9, -1), 60);
            Check.same("the sixtieth stands at " + index, x.element(index, 1), 9);
        }
    }

    static void insertKind() {
        for (int kind = 0; kind <= 4; kind++) {
            ScriptPages x = new ScriptPages();
            Check.same("insert of kind " + kind, x.insert(0, kind, 1, kind == 2 ? 0 : -1), 1);
            Check.same("kind " + kind, x.element(0, 0), kind);
        }
    }

    static void insertLength() {
        for (int kind = 0; kind <= 4; kind++) {
            for (int length : new int[] {1, 2, 399, 400}) {
                ScriptPages x = new ScriptPages();
                Check.same("insert of length " + length, x.insert(0, kind, length, kind == 2 ? 0 : -1), 1);
                Check.same("length " + length, x.element(0, 1), length);
            }
        }
    }

    static void insertPerson() {
        for (int person = 0; person <= 9; person++) {
            ScriptPages x = new ScriptPages();
            Check.same("insert of person " + person, x.insert(0, 2, 1, person), 1);
            Check.same("person " + person, x.element(0, 2), person);
        }
        for (int kind : new int[] {0, 1, 3, 4}) {
            ScriptPages x = new ScriptPages();
            Check.same("insert of no person", x.insert(0, kind, 1, ScriptPages.NONE), 1);
            Check.same("no person of kind " + kind, x.element(0, 2), -1);
        }
    }

    static void insertReturns() {
        ScriptPages x = new ScriptPages();
        for (int i = 1; i <= 60; i++) {
            Check.same("element " + i, x.insert(i / 2, 3, 1, -1), i);
        }
    }

    static void insertIndexRefused() {
        Refusal.outside("insert at an index", Scripts::empty, Refusal.INDEX, 0, 0, (x, i) -> x.insert(i, 1, 1, -1));
        Refusal.outside("insert at an index", Scripts::one, Refusal.INDEX, 0, 1, (x, i) -> x.insert(i, 0, 1, -1));
        Refusal.outside("insert at an index", Scripts::full, Refusal.INDEX, 0, 60, (x, i) -> x.insert(i, 2, 1, 1));
        Refusal.outside("insert at an index", Scripts::rich, Refusal.INDEX, 0, 7, (x, i) -> x.insert(i, 3, 1, -1));
    }

    static void insertArgumentRefused() {
        Refusal.outside("insert of a kind", Scripts.ALL, Refusal.ARGUMENT, 0, 4, (x, kind) -> x.insert(0, kind, 1, -1));
        Refusal.outside("insert of a kind", Scripts::one, Refusal.ARGUMENT, 0, 4, (x, kind) -> x.insert(0, kind, 1, 1));
        for (int kind = 0; kind <= 4; kind++) {
            int k = kind;
            Refusal.outside("insert of a length, kind " + k, Scripts.ALL, Refusal.ARGUMENT, 1, 400,
                    (x, length) -> x.insert(0, k, length, k == 2 ? 1 : -1));
            if (k != 2) {
                Refusal.outside("insert of a person, kind " + k, Scripts.ALL, Refusal.ARGUMENT, -1, -1,
                        (x, person) -> x.insert(0, k, 1, person));
                Refusal.on("insert of person 9, kind " + k, Scripts.ALL, Refusal.ARGUMENT, x -> x.insert(0, k, 1, 9));
            }
        }
        Refusal.outside("insert of a person", Scripts.ALL, Refusal.ARGUMENT, 0, 9,
                (x, person) -> x.insert(0, 2, 1, person));
    }

    static void insertStateRefused() {
        for (int kind = 0; kind <= 4; kind++) {
            int k = kind;
            Refusal.on("insert of kind " + k + " into 60", Scripts::full, Refusal.STATE,
                    x -> x.insert(30, k, 1, k == 2 ? 1 : -1));
        }
        ScriptPages x = Scripts.full();
        x.remove(1);
        Check.same("room for one again", x.insert(1, 1, 1, -1), 60);
        Refusal.on("a label that a locked scene has", Scripts::crowded, Refusal.STATE, y -> y.insert(1, 0, 1, -1));
        Refusal.on("a label ahead of all", ChangeBounds::crowdedAhead, Refusal.STATE, y -> y.insert(0, 0, 1, -1));
        Refusal.on("a label that an omitted scene has", ChangeBounds::crowdedByOmitted, Refusal.STATE,
                y -> y.insert(1, 0, 1, -1));
        ScriptPages y = Scripts.crowded();
        for (int kind = 1; kind <= 4; kind++) {
            Check.same("no heading, kind " + kind, y.insert(1, kind, 1, kind == 2 ? 1 : -1), 4 + kind);
        }
        ScriptPages z = Scripts.crowded();
        Check.same("a label that is free", z.insert(2, 0, 1, -1), 5);
        Check.same("another one", z.insert(5, 0, 1, -1), 6);
        Check.same("and one ahead of all", z.insert(0, 0, 1, -1), 7);
        Check.text("all labels", Make.labels(z), "0.1.0 1.0.0 1.0.1 1.0.2 1.1.0 2.0.0 2.1.0");
    }

    /** Ahead of all there is 0.0.1, so that a scene ahead of it would be 0.0.1, too. */
    private static ScriptPages crowdedAhead() {
        ScriptPages x = Scripts.locked("h1;");
        for (int i = 0; i < 2; i++) {
            x.insert(0, 0, 1, -1);
            x.lockScenes();
        }
        return x;
    }

    private static ScriptPages crowdedByOmitted() {
        ScriptPages x = Scripts.crowded();
        x.omit(1);
        return x;
    }

    // ---- promise 3

    static void removeElement() {
        ScriptPages x = Make.of("a1;a2;a3;a4;");
        x.remove(1);
        Check.text("between", lengths(x), "1 3 4");
        x.remove(2);
        Check.text("the last", lengths(x), "1 3");
        x.remove(0);
        Check.text("the first", lengths(x), "3");
        Check.same("undoable", x.undo(), 3);
        Check.text("behind undo", lengths(x), "1 3");
        ScriptPages persons = Make.of("n1;n2;a1;n3;");
        persons.remove(0);
        Check.same("a person goes with its name", persons.element(0, 2), 2);
        Check.same("and no action has one", persons.element(1, 2), -1);
        ScriptPages y = Scripts.full();
        y.remove(59);
        Check.same("the last of sixty", y.element(58, 0), 3);
        y.undo();
        y.remove(0);
        Check.same("the first of sixty", y.element(58, 0), 4);
    }

    static void removeIndex() {
        for (int index = 0; index < 3; index++) {
            ScriptPages x = Make.of("a1;n2;s3;");
            Check.same("remove(" + index + ")", x.remove(index), 2);
        }
        Check.same("remove(0) of one", Make.of("a1;").remove(0), 0);
        Check.same("remove(59) of sixty", Scripts.full().remove(59), 59);
        Check.same("remove(0) of sixty", Scripts.full().remove(0), 59);
    }

    static void removeReturns() {
        ScriptPages x = Scripts.full();
        for (int left = 59; left >= 0; left--) {
            Check.same("elements that are left", x.remove(left / 2), left);
        }
        Check.text("none are left", Make.values(x), "0 0 0 20 0 0 0 0");
    }

    static void removeIndexRefused() {
        Refusal.outside("remove", Scripts::one, Refusal.INDEX, 0, 0, ScriptPages::remove);
        Refusal.outside("remove", Scripts::full, Refusal.INDEX, 0, 59, ScriptPages::remove);
        Refusal.outside("remove", Scripts::rich, Refusal.INDEX, 0, 6, ScriptPages::remove);
        Refusal.on("remove(0) of none", Scripts::empty, Refusal.INDEX, x -> x.remove(0));
        Refusal.on("remove(-1) of none", Scripts::empty, Refusal.INDEX, x -> x.remove(-1));
    }

    static void removeLockedRefused() {
        Scripts.Maker maker = () -> Scripts.locked("a1;h1;a1;h1;");
        Refusal.on("a locked heading", maker, Refusal.STATE, x -> x.remove(1));
        Refusal.on("the last element", maker, Refusal.STATE, x -> x.remove(3));
        Refusal.on("an omitted heading", () -> {
            ScriptPages x = maker.make();
            x.omit(0);
            return x;
        }, Refusal.STATE, x -> x.remove(1));
        ScriptPages x = maker.make();
        x.insert(2, 0, 1, -1);
        Check.same("an open heading", x.remove(2), 4);
        Check.same("an element of a locked scene", x.remove(2), 3);
        Check.same("one ahead of all scenes", x.remove(0), 2);
        ScriptPages undone = maker.make();
        undone.undo();
        Check.same("a heading that was locked", undone.remove(1), 3);
        ScriptPages parsed = maker.make();
        parsed.parse();
        Check.same("a heading behind parse", parsed.remove(1), 3);
    }

    // ---- promise 4

    static void setLengthSets() {
        ScriptPages x = Make.of("n1;h400;a60;");
        Check.same("a name keeps its line", x.setLength(0, 400), 1);
        Check.same("the length of a name", x.element(0, 1), 400);
        Check.same("undoable", x.undo(), 2);
        Check.same("behind undo", x.element(0, 1), 10);
        x.lockScenes();
        x.omit(0);
        Check.same("an omitted heading keeps its line", x.setLength(1, 399), 1);
        Check.same("its length", x.element(1, 1), 399);
        Check.same("its lines", x.element(1, 3), 1);
        x.undo();
        Check.same("its length behind undo", x.element(1, 1), 400);
        x.undo();
        Check.same("its lines if it is not omitted", x.element(1, 3), 7);
    }

    static void setLengthIndex() {
        for (int index = 0; index < 3; index++) {
            ScriptPages x = Make.of("a1;a2;a3;");
            Check.same("setLength(" + index + ")", x.setLength(index, 61), 2);
            Check.same("its length", x.element(index, 1), 61);
            Check.same("its neighbour", x.element((index + 1) % 3, 1), (index + 1) % 3 + 1);
        }
        ScriptPages x = Scripts.full();
        Check.same("the last of sixty", x.setLength(59, 400), 16);
        Check.same("its length", x.element(59, 1), 400);
    }

    static void setLengthLength() {
        ScriptPages x = Make.of("s5;");
        int[] lengths = {1, 2, 399, 400};
        int[] lines = {1, 1, 12, 12};
        for (int i = 0; i < 4; i++) {
            Check.same("setLength to " + lengths[i], x.setLength(0, lengths[i]), lines[i]);
            Check.same("length " + lengths[i], x.element(0, 1), lengths[i]);
        }
    }

    static void setLengthReturns() {
        ScriptPages x = Make.of("h1;a1;n1;s1;r1;");
        int[] most = {7, 7, 1, 12, 16};
        for (int i = 0; i < 5; i++) {
            Check.same("1 of element " + i, x.setLength(i, 1), 1);
            Check.same("400 of element " + i, x.setLength(i, 400), most[i]);
        }
    }

    static void setLengthIndexRefused() {
        Refusal.outside("setLength", Scripts::one, Refusal.INDEX, 0, 0, (x, i) -> x.setLength(i, 5));
        Refusal.outside("setLength", Scripts::full, Refusal.INDEX, 0, 59, (x, i) -> x.setLength(i, 5));
        Refusal.outside("setLength", Scripts::rich, Refusal.INDEX, 0, 6, (x, i) -> x.setLength(i, 5));
        Refusal.on("setLength of none", Scripts::empty, Refusal.INDEX, x -> x.setLength(0, 5));
    }

    static void setLengthArgumentRefused() {
        Refusal.outside("setLength", Scripts.WITH_ELEMENTS, Refusal.ARGUMENT, 1, 400, (x, n) -> x.setLength(0, n));
        Refusal.outside("setLength of a name", Scripts::full, Refusal.ARGUMENT, 1, 400, (x, n) -> x.setLength(2, n));
    }

    // ---- promise 5

    static void setPageSets() {
        ScriptPages x = Make.of("r400;r400;");
        x.setPage(31);
        Check.same("L", x.value(3), 31);
        Check.same("two pages", x.value(2), 2);
        x.setPage(32);
        Check.same("one page", x.value(2), 1);
        Check.same("undoable", x.undo(), 3);
        Check.same("L behind undo", x.value(3), 31);
        Check.same("two pages behind undo", x.value(2), 2);
    }

    static void setPageLines() {
        ScriptPages x = new ScriptPages();
        int previous = 50;
        for (int lines : new int[] {20, 21, 59, 60, 60, 20}) {
            Check.same("setPage(" + lines + ")", x.setPage(lines), previous);
            Check.same("L of " + lines, x.value(3), lines);
            previous = lines;
        }
    }

    static void setPageReturns() {
        ScriptPages x = new ScriptPages();
        Check.same("initially", x.setPage(20), 50);
        Check.same("the least", x.setPage(60), 20);
        Check.same("the most", x.setPage(60), 60);
        x.undo();
        x.undo();
        Check.same("behind undo", x.setPage(40), 20);
    }

    static void setPageRefused() {
        Refusal.outside("setPage", Scripts.ALL, Refusal.ARGUMENT, 20, 60, ScriptPages::setPage);
        for (int lines : new int[] {-20, -1, 0, 1, 50 + 256}) {
            Refusal.on("setPage(" + lines + ")", Scripts::one, Refusal.ARGUMENT, x -> x.setPage(lines));
        }
    }

    // ---- promise 6

    static void lockScenesLocks() {
        ScriptPages x = Make.of("n1;h1;h1;");
        x.lockScenes();
        Check.text("locked", Make.labels(x), "1.0.0 2.0.0");
        x.insert(2, 0, 1, -1);
        Check.same("an open one", x.scene(1, 3), 0);
        x.lockScenes();
        Check.same("locked, too", x.scene(1, 3), 1);
        x.insert(0, 0, 1, -1);
        Check.text("with the labels that they had", Make.labels(x), "0.1.0 1.0.0 1.1.0 2.0.0");
        x.undo();
        Check.same("undoable", x.undo(), 2);
        Check.same("open again", x.scene(1, 3), 0);
        Check.same("the others are still locked", x.value(4), 2);
    }

    static void lockScenesReturns() {
        ScriptPages none = new ScriptPages();
        Check.same("without scenes", none.lockScenes(), 0);
        Check.same("elements without scenes", Make.of("a1;n1;").lockScenes(), 0);
        ScriptPages most = Scripts.sixty(50, "h1;");
        Check.same("sixty scenes", most.lockScenes(), 60);
        Check.same("sixty locked scenes", most.value(4), 60);
        Check.same("all are locked already", most.lockScenes(), 0);
        ScriptPages x = Scripts.locked("h1;h1;");
        x.omit(0);
        x.insert(1, 0, 1, -1);
        Check.same("only one was not locked", x.lockScenes(), 1);
    }

    // ---- promise 7

    static void omitOmits() {
        ScriptPages x = Scripts.locked("a1;h400;a2;n3;h5;a6;");
        x.omit(0);
        Check.text("its elements but the heading are removed", lengths(x), "1 400 5 6");
        Check.same("omitted", x.scene(0, 4), 1);
        Check.same("still locked", x.scene(0, 3), 1);
        Check.same("not the next one", x.scene(1, 4), 0);
        Check.same("the heading has 1 line", x.element(1, 3), 1);
        Check.same("undoable", x.undo(), 3);
        Check.text("behind undo", lengths(x), "1 400 2 10 5 6");
        Check.same("not omitted", x.scene(0, 4), 0);
        x.omit(1);
        Check.text("the last scene", lengths(x), "1 400 2 10 5");
        ScriptPages most = Scripts.locked("h1;" + Make.times(59, "a1;"));
        most.omit(0);
        Check.text("all but the heading", lengths(most), "1");
    }

    static void omitScene() {
        for (int scene = 0; scene < 3; scene++) {
            ScriptPages x = Scripts.locked("h1;a1;h1;a1;h1;a1;");
            Check.same("omit(" + scene + ")", x.omit(scene), 1);
            Check.same("omitted scene " + scene, x.scene(scene, 4), 1);
        }
        ScriptPages most = Scripts.sixty(50, "h1;");
        most.lockScenes();
        Check.same("omit(59)", most.omit(59), 0);
        Check.same("omitted scene 59", most.scene(59, 4), 1);
    }

    static void omitReturns() {
        Check.same("nothing but the heading", Scripts.locked("h1;h1;").omit(0), 0);
        Check.same("the heading at the end", Scripts.locked("h1;h1;").omit(1), 0);
        Check.same("one element", Scripts.locked("a1;h1;a1;h1;").omit(0), 1);
        Check.same("59 elements", Scripts.locked("h1;" + Make.times(59, "a1;")).omit(0), 59);
    }

    static void omitIndexRefused() {
        Refusal.outside("omit", Scripts::rich, Refusal.INDEX, 0, 3, ScriptPages::omit);
        Refusal.outside("omit", Scripts::full, Refusal.INDEX, 0, 11, ScriptPages::omit);
        Refusal.on("omit(0) of none", Scripts::empty, Refusal.INDEX, x -> x.omit(0));
        Refusal.on("omit(0) without headings", Scripts::one, Refusal.INDEX, x -> x.omit(0));
    }

    static void omitStateRefused() {
        Refusal.on("no locked scene", Scripts::full, Refusal.STATE, x -> x.omit(11));
        Refusal.on("an open one among locked ones", Scripts::rich, Refusal.STATE, x -> x.omit(1));
        Refusal.on("an omitted one", Scripts::rich, Refusal.STATE, x -> x.omit(2));
        Scripts.Maker filled = () -> {
            ScriptPages x = Scripts.locked("h1;a1;");
            x.omit(0);
            x.insert(1, 1, 1, -1);
            return x;
        };
        Refusal.on("an omitted one with a new element", filled, Refusal.STATE, x -> x.omit(0));
        ScriptPages undone = filled.make();
        undone.undo();
        undone.undo();
        Check.same("no longer omitted", undone.omit(0), 1);
    }

    // ---- promise 8

    static void lockPagesLocks() {
        ScriptPages x = Make.of(20, "r400;r400;");
        x.lockPages();
        Check.text("marks", Make.marks(x), "1 2");
        x.setPage(60);
        Check.same("pages stay", x.value(2), 2);
        x.insert(1, 4, 1, -1);
        Check.text("labels stay", Make.pageLabels(x), "1.0 2.0");
        x.undo();
        x.undo();
        Check.same("undoable", x.undo(), 1);
        Check.text("no marks", Make.marks(x), "- -");
    }

    static void lockPagesReturns() {
        Check.same("without elements", new ScriptPages().lockPages(), 0);
        Check.same("one page", Make.of("a1;").lockPages(), 1);
        Check.same("sixty pages", Scripts.sixtyLong(20).lockPages(), 60);
        Check.same("a page that is passed over", Make.of(20, "r400;s400;").lockPages(), 1);
        ScriptPages x = Scripts.marked(20, "r400;s400;a1;");
        Check.same("all marks, not the new ones only", x.lockPages(), 2);
        Check.same("as value(5)", x.value(5), 2);
    }
}
