/** Promises 16 to 19: the questions that change nothing. */
final class WhatIfTest {
    private static final Class<IndexOutOfBoundsException> INDEX = IndexOutOfBoundsException.class;
    private static final Class<IllegalArgumentException> ARGUMENT = IllegalArgumentException.class;

    private WhatIfTest() {
    }

    private static void promise16() {
        ScriptPages x = Make.of("a400;a400;a400;a400;");
        long before = x.digest();
        Check.same("16: pagesWith(20)", x.pagesWith(20), 2);
        Check.same("16: pagesWith(30)", x.pagesWith(30), 2);
        Check.same("16: pagesWith(31)", x.pagesWith(31), 1);
        Check.same("16: pagesWith(60)", x.pagesWith(60), 1);
        Check.same("16: nothing changes", x.digest(), before);
        Check.refuses("16: pagesWith(19)", x, ARGUMENT, () -> x.pagesWith(19));
        Check.refuses("16: pagesWith(61)", x, ARGUMENT, () -> x.pagesWith(61));
        x.setPage(20);
        x.lockPages();
        x.insert(0, 1, 1, -1);
        Check.same("16: page marks count", x.pagesWith(60), 3);
        Check.same("16: without elements", new ScriptPages().pagesWith(20), 0);
    }

    private static void promise17() {
        ScriptPages x = Make.of("a400;a400;a400;a400;");
        long before = x.digest();
        Check.same("17: one page", x.smallestPage(1), 31);
        Check.same("17: two pages", x.smallestPage(2), 20);
        Check.same("17: sixty pages", x.smallestPage(60), 20);
        Check.same("17: no page", x.smallestPage(0), -1);
        Check.same("17: nothing changes", x.digest(), before);
        Check.refuses("17: -1", x, ARGUMENT, () -> x.smallestPage(-1));
        Check.refuses("17: 61", x, ARGUMENT, () -> x.smallestPage(61));
        Check.same("17: without elements", new ScriptPages().smallestPage(0), 20);
        ScriptPages all = Make.of("r400;r400;r400;r300;");
        Check.same("17: L itself may be 60", all.smallestPage(1), 60);
        all.setLength(3, 301);
        Check.same("17: but not 61", all.smallestPage(1), -1);
        x.insert(4, 4, 400, -1);
        x.lockPages();
        x.insert(0, 1, 1, -1);
        Check.same("17: page marks count", x.smallestPage(1), -1);
    }

    private static void promise18() {
        ScriptPages x = Make.of(20, "a400;a400;a180;");
        long before = x.digest();
        Check.same("18: as it is", x.pagesBy(2, 180), 1);
        Check.same("18: a line more", x.pagesBy(2, 181), 1);
        Check.same("18: two lines more", x.pagesBy(2, 241), 2);
        Check.same("18: the first", x.pagesBy(0, 1), 1);
        Check.same("18: nothing changes", x.digest(), before);
        Check.refuses("18: index -1", x, INDEX, () -> x.pagesBy(-1, 0));
        Check.refuses("18: index 3", x, INDEX, () -> x.pagesBy(3, 401));
        Check.refuses("18: length 0", x, ARGUMENT, () -> x.pagesBy(0, 0));
        Check.refuses("18: length 401", x, ARGUMENT, () -> x.pagesBy(0, 401));
        x.setLength(2, 241);
        x.setLength(2, 400);
        x.insert(3, 4, 400, -1);
        x.lockPages();
        Check.same("18: page marks count", x.pagesBy(2, 1), 2);
    }

    private static void promise19() {
        ScriptPages x = Make.of(20, "a400;a400;a180;");
        long before = x.digest();
        Check.same("19: an action", x.greatestLength(2), 240);
        Check.same("19: nothing changes", x.digest(), before);
        Check.same("19: a name", Make.of(20, "r400;r75;n1;").greatestLength(2), 400);
        Check.same("19: a speech", Make.of(20, "r400;s1;").greatestLength(1), 140);
        Check.same("19: a remark", Make.of(20, "a400;a400;r1;").greatestLength(2), 125);
        Check.same("19: a heading", Make.of(20, "a400;a300;h1;").greatestLength(2), 300);
        Check.same("19: it is the greatest now", Make.of(20, "r400;r100;").greatestLength(1), 100);
        Check.same("19: pages enough", Make.of("a1;a1;").greatestLength(0), 400);
        ScriptPages y = Make.of("h1;a1;");
        y.lockScenes();
        y.omit(0);
        Check.same("19: an omitted heading", y.greatestLength(0), 400);
        Check.refuses("19: index -1", y, INDEX, () -> y.greatestLength(-1));
        Check.refuses("19: index 1", y, INDEX, () -> y.greatestLength(1));
        // Of 4 lines the action is split; of 3 it goes to the next page as a whole, and takes a line more there.
        ScriptPages z = Make.of(20, "a400;a400;a1;a1;a400;a400;a1;");
        Check.same("19: pages now", z.value(2), 2);
        Check.same("19: more pages with 3 lines", z.pagesBy(3, 180), 3);
        Check.same("19: but not with 4 lines", z.greatestLength(3), 240);
        z.lockPages();
        Check.same("19: page marks count", z.greatestLength(3), 120);
    }

    /** What a question has tried out, or a refused call, must not get into the next change. */
    private static void leavesNothingBehind(String what, Check.Call change, ScriptPages asked, ScriptPages other) {
        asked.pagesWith(60);
        asked.pagesBy(0, 400);
        asked.smallestPage(60);
        asked.greatestLength(1);
        int error = Make.parse(asked, "a1;a1;x");
        Make.parse(other, "a1;a1;x");
        Check.same("22: a wrong text ahead of " + what, error, -16);
        change.run();
        Check.same("16 to 19: questions ahead of " + what, asked.digest(), other.digest());
    }

    private static ScriptPages locked() {
        ScriptPages x = Make.of(23, "h10;a400;n1;s400;h20;r400;h30;a90;");
        x.lockScenes();
        x.insert(4, 0, 40, -1);
        return x;
    }

    private static void nothingBehind() {
        for (int i = 0; i < 9; i++) {
            ScriptPages asked = locked();
            ScriptPages other = locked();
            change(other, i);
            int kind = i;
            leavesNothingBehind("change " + i, () -> change(asked, kind), asked, other);
        }
    }

    private static void change(ScriptPages x, int kind) {
        switch (kind) {
            case 0: x.insert(3, 4, 31, -1); break;
            case 1: x.remove(1); break;
            case 2: x.setLength(3, 80); break;
            case 3: x.setPage(24); break;
            case 4: x.lockScenes(); break;
            case 5: x.omit(0); break;
            case 6: x.lockPages(); break;
            case 7: x.undo(); break;
            default: x.insert(1, 0, 31, -1); break;
        }
    }

    public static void main(String[] args) {
        promise16();
        promise17();
        promise18();
        promise19();
        nothingBehind();
        Check.end();
    }
}
