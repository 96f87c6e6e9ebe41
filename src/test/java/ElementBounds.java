/** Boundary cases of "What it is", "Elements" and "Scenes". BOUNDARIES.md tells which sentence each test holds. */
final class ElementBounds {
    private static final int[] WIDTHS = {60, 60, 400, 35, 25};

    private ElementBounds() {
    }

    static void call512() {
        ScriptPages x = new ScriptPages();
        int calls = 0;
        for (int i = 0; i < 60; i++) {
            Check.same("insert as call " + (++calls), x.insert(i, 1, 1, -1), i + 1);
        }
        while (calls < 507) {
            int length = calls % 400 + 1;
            Check.same("setLength as call " + (++calls), x.setLength(calls % 60, length), (length + 59) / 60);
        }
        for (int left = 3; left >= 0; left--) {
            Check.same("undo as call " + (++calls), x.undo(), left);
        }
        Check.same("the last call is the 512th", ++calls, 512);
        Check.same("value(0) as call 512", x.value(0), 60);
    }

    static void none() {
        Check.same("NONE", ScriptPages.NONE, -1);
        ScriptPages x = Make.of(20, "a1;r400;s400;");
        Check.same("no person", x.element(0, 2), -1);
        Check.same("no scene", x.element(0, 4), -1);
        Check.same("no page mark", x.element(0, 5), -1);
        Check.same("no element begins on it", x.page(1, 3), -1);
        Check.same("no scene with a label", x.find(1, 0, 0), -1);
        Check.same("no L", x.smallestPage(0), -1);
    }

    static void division() {
        ScriptPages x = Make.of(50, "h1;");
        Check.same("57 / 50", x.scene(0, 8), 1);
        x.setLength(0, 60);
        Check.same("119 / 60", x.element(0, 3), 1);
        x.setLength(0, 361);
        Check.same("420 / 60", x.element(0, 3), 7);
        x.setPage(28);
        Check.same("(56 + 27) / 28", x.scene(0, 8), 2);
        x.setPage(29);
        Check.same("(56 + 28) / 29", x.scene(0, 8), 2);
        x.setPage(27);
        Check.same("(56 + 26) / 27", x.scene(0, 8), 3);
    }

    static void sixtyElements() {
        ScriptPages x = new ScriptPages();
        for (int i = 0; i < 60; i++) {
            Check.same("room for element " + i, x.insert(i, 1, i + 1, -1), i + 1);
        }
        for (int i = 0; i < 60; i++) {
            Check.same("element " + i, x.element(i, 1), i + 1);
        }
        Refusal.on("a 61st element", Scripts::full, Refusal.STATE, y -> y.insert(60, 1, 1, -1));
        Refusal.on("an element with the number 60", Scripts::full, Refusal.INDEX, y -> y.element(60, 0));
        Refusal.on("element 0 of none", Scripts::empty, Refusal.INDEX, y -> y.element(0, 0));
    }

    static void kindLengthPerson() {
        ScriptPages x = new ScriptPages();
        for (int kind = 0; kind <= 4; kind++) {
            for (int edge = 0; edge < 2; edge++) {
                int length = edge == 0 ? 1 : 400;
                int person = kind != 2 ? -1 : edge == 0 ? 0 : 9;
                x.insert(0, kind, length, person);
                Check.same("the kind " + kind, x.element(0, 0), kind);
                Check.same("the length " + length, x.element(0, 1), length);
                Check.same("the person of kind " + kind, x.element(0, 2), person);
            }
        }
    }

    static void lines() {
        for (int kind = 0; kind <= 4; kind++) {
            ScriptPages x = new ScriptPages();
            x.insert(0, kind, 200, kind == 2 ? 3 : -1);
            allLengths("lines of kind " + kind, x, WIDTHS[kind]);
        }
        ScriptPages omitted = Scripts.locked("h400;a1;");
        omitted.omit(0);
        Check.same("lines of an omitted heading", omitted.element(0, 3), 1);
        allLengths("lines of an omitted heading", omitted, 400);
    }

    private static void allLengths(String what, ScriptPages x, int width) {
        int due = 0;
        for (int length = 1; length <= 400; length++) {
            // A line more is begun by the first character that has no place on the line before.
            due += length % width == 1 ? 1 : 0;
            Check.same(what + " of length " + length, x.setLength(0, length), due);
            if (length == 1 || length == width || length == width + 1 || length == 400) {
                Check.same(what + " by element()", x.element(0, 3), due);
            }
        }
    }

    static void blankLines() {
        Check.text("blank lines", Make.places(Make.of(60, "a1;h1;h1;a1;n1;s1;r1;n1;a1;")),
                "0:0+1 0:3+1 0:6+1 0:8+1 0:10+1 0:11+1 0:12+1 0:14+1 0:16+1");
        ScriptPages omitted = Scripts.locked("a1;h1;a1;");
        omitted.omit(0);
        Check.text("ahead of an omitted heading", Make.places(omitted), "0:0+1 0:3+1");
        String[] items = {"h1;", "a1;", "n1;", "s1;", "r1;"};
        int[] blanks = {2, 1, 1, 0, 0};
        for (int kind = 0; kind < 5; kind++) {
            String item = items[kind];
            Check.same("on the first page: " + item, Make.of(20, item).element(0, 7), 0);
            ScriptPages next = Make.of(20, "a400;a400;a240;" + item);
            Check.same("on the next page: " + item, next.element(3, 6), 1);
            Check.same("at the top of the next page: " + item, next.element(3, 7), 0);
            ScriptPages rest = Make.of(20, "r400;a400;" + item);
            Check.same("on the page of a rest: " + item, rest.element(2, 6), 1);
            Check.same("behind a rest of 4 lines: " + item, rest.element(2, 7), 4 + blanks[kind]);
        }
    }

    static void scenesGoOn() {
        ScriptPages x = Make.of("h1;h1;a1;n1;h1;");
        int[] sizes = {1, 3, 1};
        int[] headings = {0, 1, 4};
        for (int s = 0; s < 3; s++) {
            Check.same("elements of scene " + s, x.scene(s, 6), sizes[s]);
            Check.same("heading of scene " + s, x.scene(s, 5), headings[s]);
        }
        int[] homes = {0, 1, 1, 1, 2};
        for (int i = 0; i < 5; i++) {
            Check.same("scene of element " + i, x.element(i, 4), homes[i]);
        }
        Check.same("scenes", x.value(1), 3);
        ScriptPages most = Scripts.sixty(50, "h1;");
        Check.same("sixty scenes", most.value(1), 60);
        Check.same("the last of sixty", most.scene(59, 5), 59);
        ScriptPages last = Make.of("h1;" + Make.times(59, "a1;"));
        Check.same("up to the end of a full script", last.scene(0, 6), 60);
    }

    private static void carries(String text, String due) {
        ScriptPages x = Make.of(text);
        StringBuilder got = new StringBuilder();
        int all = 0;
        for (int i = 0; i < x.value(0); i++) {
            got.append(x.element(i, 9));
            all += x.element(i, 9);
        }
        Check.text("carried on in " + text, got.toString(), due);
        Check.same("all carried on in " + text, x.value(6), all);
    }

    static void carriedOn() {
        carries("h1;n1;", "00");
        carries("h1;n1;n1;", "001");
        carries("h1;n0;n0;", "001");
        carries("h1;n9;n9;", "001");
        carries("h1;n1;n2;n1;", "0000");
        carries("h1;n1;n2;n2;n1;", "00010");
        carries("h1;n1;a1;s1;r1;n1;", "000001");
        carries("h1;n1;h1;n1;", "0000");
        carries("h1;n1;h1;n2;n1;n1;", "000001");
        carries("h1;" + Make.times(59, "n1;"), "00" + Make.times(58, "1"));
        ScriptPages x = Scripts.locked("h1;n1;h1;a1;");
        x.omit(1);
        x.insert(3, 2, 1, 1);
        Check.same("an omitted heading begins a scene, too", x.element(3, 9), 0);
    }

    static void beforeFirstHeading() {
        ScriptPages x = Make.of("n1;n1;a1;h1;n1;n1;");
        int[] homes = {-1, -1, -1, 0, 0, 0};
        for (int i = 0; i < 6; i++) {
            Check.same("scene of element " + i, x.element(i, 4), homes[i]);
        }
        carries("n1;n1;a1;n1;h1;n1;n1;", "0000001");
        carries("n1;n1;n1;", "000");
        carries(Make.times(59, "n1;") + "h1;", Make.times(60, "0"));
        Check.same("elements of scene 0 only", x.scene(0, 6), 3);
        Check.same("lines of scene 0 only", x.scene(0, 7), 3);
        Check.same("no scenes", Make.of("n1;a1;").value(1), 0);
    }
}
