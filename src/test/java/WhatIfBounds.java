/** Boundary cases of promises 16 to 19: the what-if questions. */
final class WhatIfBounds {
    private WhatIfBounds() {
    }

    // ---- promise 16

    static void pagesWithLines() {
        ScriptPages x = Make.of("a400;a400;a400;a400;");
        Check.same("pagesWith(20)", x.pagesWith(20), 2);
        Check.same("pagesWith(30)", x.pagesWith(30), 2);
        Check.same("pagesWith(31)", x.pagesWith(31), 1);
        Check.same("pagesWith(60)", x.pagesWith(60), 1);
        ScriptPages edge = Make.of("r400;r125;");
        Check.same("20 are too few", edge.pagesWith(20), 2);
        Check.same("21 will do", edge.pagesWith(21), 1);
        ScriptPages most = Make.of("r400;r400;r400;r300;");
        Check.same("59 are too few", most.pagesWith(59), 2);
        Check.same("60 will do", most.pagesWith(60), 1);
    }

    static void pagesWithReturns() {
        Check.same("without elements", new ScriptPages().pagesWith(20), 0);
        Check.same("one element", Make.of("a1;").pagesWith(20), 1);
        ScriptPages most = Scripts.sixtyLong(60);
        Check.same("three remarks share the last page", most.value(2), 58);
        Check.same("sixty pages", most.pagesWith(20), 60);
        Check.same("as it is", most.pagesWith(60), 58);
        String before = Answers.of(most);
        most.pagesWith(33);
        Check.text("nothing changes", Answers.of(most), before);
        most.pagesBy(59, 1);
        Check.same("nothing of another question, either", most.pagesWith(20), 60);
    }

    static void pagesWithRefused() {
        Refusal.outside("pagesWith", Scripts.ALL, Refusal.ARGUMENT, 20, 60, ScriptPages::pagesWith);
    }

    // ---- promise 17

    static void smallestOfAll() {
        ScriptPages x = Make.of(60, "r400;r100;");
        Check.same("one page", x.smallestPage(1), 20);
        Check.same("at most two pages", x.smallestPage(2), 20);
        ScriptPages y = Make.of(20, "a400;a400;a400;a400;");
        Check.same("no L that is greater, whatever L is now", y.smallestPage(1), 31);
        y.setPage(60);
        Check.same("or was", y.smallestPage(1), 31);
    }

    static void smallestPagePages() {
        Check.same("0 pages of no elements", new ScriptPages().smallestPage(0), 20);
        Check.same("60 pages of no elements", new ScriptPages().smallestPage(60), 20);
        ScriptPages most = Scripts.sixtyLong(50);
        Check.same("60 pages", most.smallestPage(60), 20);
        Check.same("59 pages", most.smallestPage(59), 32);
        Check.same("58 pages", most.smallestPage(58), 48);
        Check.same("57 pages", most.smallestPage(57), -1);
        Check.same("1 page", most.smallestPage(1), -1);
        Check.same("0 pages", most.smallestPage(0), -1);
    }

    static void smallestPageReturns() {
        ScriptPages x = Make.of("r400;r100;");
        Check.same("20 will do", x.smallestPage(1), 20);
        x.setLength(1, 101);
        Check.same("21 will do", x.smallestPage(1), 21);
        Check.same("none for 0 pages", x.smallestPage(0), -1);
        ScriptPages most = Make.of("r400;r400;r400;r300;");
        Check.same("60 will do", most.smallestPage(1), 60);
        most.setLength(3, 301);
        Check.same("61 is no L", most.smallestPage(1), -1);
        String before = Answers.of(most);
        most.smallestPage(1);
        Check.text("nothing changes", Answers.of(most), before);
        most.pagesBy(0, 1);
        Check.same("nothing of another question, either", most.smallestPage(1), -1);
    }

    static void smallestPageRefused() {
        Refusal.outside("smallestPage", Scripts.ALL, Refusal.ARGUMENT, 0, 60, ScriptPages::smallestPage);
    }

    // ---- promise 18

    static void pagesByIndex() {
        int[] due = {2, 1, 3};
        for (int index = 0; index < 3; index++) {
            Check.same("element " + index, Make.of(20, "r1;r1;r1;").pagesBy(index, 400), 1);
            Check.same("element " + index + " of longer ones", Make.of(20, "r1;r400;r75;").pagesBy(index, 400),
                    due[index]);
        }
        Check.same("the last of sixty", Scripts.sixty(60, "r1;").pagesBy(59, 26), 2);
        Check.same("the first of sixty", Scripts.sixty(60, "r1;").pagesBy(0, 26), 2);
    }

    static void pagesByLength() {
        ScriptPages x = Make.of(20, "r400;r100;");
        Check.same("1", x.pagesBy(1, 1), 1);
        Check.same("100", x.pagesBy(1, 100), 1);
        Check.same("101", x.pagesBy(1, 101), 2);
        Check.same("400", x.pagesBy(1, 400), 2);
        ScriptPages name = Make.of(20, "r400;r75;n1;");
        Check.same("a name of 1", name.pagesBy(2, 1), 2);
        Check.same("a name of 400", name.pagesBy(2, 400), 2);
        ScriptPages fits = Make.of(20, "r400;r50;n1;");
        Check.same("a name that has room, of 400", fits.pagesBy(2, 400), 1);
    }

    static void pagesByReturns() {
        ScriptPages x = Make.of(20, "r400;r100;");
        Check.same("as it is", x.pagesBy(1, 100), x.value(2));
        String before = Answers.of(x);
        Check.same("two pages", x.pagesBy(1, 400), 2);
        Check.text("nothing changes", Answers.of(x), before);
        x.pagesWith(60);
        Check.same("nothing of another question, either", x.pagesBy(1, 400), 2);
        Check.same("one element", Make.of("a1;").pagesBy(0, 400), 1);
        Check.same("sixty pages", Scripts.sixtyLong(20).pagesBy(59, 400), 60);
        Check.same("one page less", Scripts.sixtyLong(20).pagesBy(59, 1), 59);
        ScriptPages omitted = Scripts.locked(20, "r400;h1;");
        omitted.omit(0);
        Check.same("an omitted heading keeps its line", omitted.pagesBy(1, 400), 1);
    }

    static void pagesByIndexRefused() {
        Refusal.outside("pagesBy", Scripts::one, Refusal.INDEX, 0, 0, (x, i) -> x.pagesBy(i, 1));
        Refusal.outside("pagesBy", Scripts::full, Refusal.INDEX, 0, 59, (x, i) -> x.pagesBy(i, 1));
        Refusal.outside("pagesBy", Scripts::rich, Refusal.INDEX, 0, 6, (x, i) -> x.pagesBy(i, 1));
        Refusal.on("pagesBy of none", Scripts::empty, Refusal.INDEX, x -> x.pagesBy(0, 1));
    }

    static void pagesByArgumentRefused() {
        Refusal.outside("pagesBy", Scripts.WITH_ELEMENTS, Refusal.ARGUMENT, 1, 400, (x, n) -> x.pagesBy(0, n));
        Refusal.outside("pagesBy of a name", Scripts::full, Refusal.ARGUMENT, 1, 400, (x, n) -> x.pagesBy(2, n));
    }

    // ---- promise 19

    static void greatestOfAll() {
        // Of 4 lines the action is split; of 3 it goes to the next page as a whole, and takes a line more there.
        ScriptPages x = Make.of(20, "a400;a400;a1;a1;a400;a400;a1;");
        Check.same("pages now", x.value(2), 2);
        Check.same("two lines", x.pagesBy(3, 120), 2);
        Check.same("three lines", x.pagesBy(3, 121), 3);
        Check.same("three lines, all full", x.pagesBy(3, 180), 3);
        Check.same("four lines", x.pagesBy(3, 181), 2);
        Check.same("the greatest one of all", x.greatestLength(3), 240);
        Check.same("one more", x.pagesBy(3, 241), 3);
        Check.same("no more pages than now", Make.of(20, "r400;r25;").greatestLength(1), 100);
        Check.same("as many pages as now", Make.of(20, "r400;r101;").greatestLength(1), 400);
    }

    static void marksCount() {
        ScriptPages x = Scripts.marked(20, "r400;r400;a1;");
        x.setPage(60);
        Check.same("pagesWith", x.pagesWith(60), 2);
        Check.same("smallestPage", x.smallestPage(1), -1);
        Check.same("pagesBy", x.pagesBy(0, 1), 2);
        Check.same("greatestLength", x.greatestLength(0), 400);
        ScriptPages y = Scripts.marked(20, "a400;a400;a1;a1;a400;a400;a1;");
        Check.same("a mark behind a full page", y.greatestLength(3), 120);
        ScriptPages name = Make.of(20, "r400;r50;n1;h1;s71;");
        Check.same("a need without a mark", name.pagesBy(3, 1), 2);
        name.lockPages();
        name.remove(3);
        Check.same("a need that ends at a mark", name.greatestLength(3), 400);
        Check.same("its length of two pages", name.pagesBy(1, 50), 2);
        Check.same("its length of three pages", name.pagesBy(1, 51), 3);
        Check.same("the greatest one of two pages", name.greatestLength(1), 50);
    }

    static void greatestLengthIndex() {
        ScriptPages x = Make.of(20, "r25;r25;a1;");
        int[] due = {400, 400, 400};
        for (int index = 0; index < 3; index++) {
            Check.same("element " + index, x.greatestLength(index), due[index]);
        }
        ScriptPages most = Scripts.sixty(60, "r1;");
        Check.same("the first of sixty", most.greatestLength(0), 25);
        Check.same("the last of sixty", most.greatestLength(59), 25);
    }

    static void greatestLengthReturns() {
        ScriptPages x = Make.of(20, "r400;r100;");
        Check.same("its own length", x.greatestLength(1), 100);
        x.setLength(1, 76);
        Check.same("to the end of its last line", x.greatestLength(1), 100);
        Check.same("400, the length that it has", x.greatestLength(0), 400);
        ScriptPages full = Make.of(20, "r400;r50;n1;");
        Check.same("a name", full.greatestLength(2), 400);
        ScriptPages omitted = Scripts.locked(20, "r400;r25;h1;a1;");
        omitted.omit(0);
        Check.same("an omitted heading", omitted.greatestLength(2), 400);
        ScriptPages lines = Make.of(20, "a400;a400;a60;r1;r1;");
        Check.same("the length of one line", lines.greatestLength(4), 50);
        Check.same("a heading", Make.of(20, "a400;a300;h1;").greatestLength(2), 300);
        Check.same("a speech", Make.of(20, "r400;s1;").greatestLength(1), 140);
        String before = Answers.of(x);
        x.greatestLength(1);
        Check.text("nothing changes", Answers.of(x), before);
        x.pagesWith(60);
        Check.same("nothing of another question, either", x.greatestLength(1), 100);
    }

    static void greatestLengthRefused() {
        Refusal.outside("greatestLength", Scripts::one, Refusal.INDEX, 0, 0, ScriptPages::greatestLength);
        Refusal.outside("greatestLength", Scripts::full, Refusal.INDEX, 0, 59, ScriptPages::greatestLength);
        Refusal.outside("greatestLength", Scripts::rich, Refusal.INDEX, 0, 6, ScriptPages::greatestLength);
        Refusal.on("greatestLength of none", Scripts::empty, Refusal.INDEX, x -> x.greatestLength(0));
    }
}
