/** Boundary cases of "Pages": how elements are set on pages of 20 lines, if nothing else is said. */
final class PageBounds {
    private PageBounds() {
    }

    private static void set(String text, String places) {
        Check.text("places of " + text, Make.places(Make.of(20, text)), places);
    }

    private static void set(String text, String places, String fills) {
        set(text, places);
        Check.text("used lines of " + text, Make.fills(Make.of(20, text)), fills);
    }

    static void pageLines() {
        Check.same("L of a new object", new ScriptPages().value(3), 50);
        int[] all = {20, 21, 50, 59, 60};
        String[] full = {"r400;r100;", "r400;r125;", "r400;r400;r400;r50;", "r400;r400;r400;r275;",
            "r400;r400;r400;r300;"};
        for (int i = 0; i < all.length; i++) {
            Check.same("a full page of " + all[i], Make.of(all[i], full[i]).value(2), 1);
            Check.same("a line more than " + all[i], Make.of(all[i], full[i] + "r1;").value(2), 2);
        }
        Refusal.outside("L", Scripts.ALL, Refusal.ARGUMENT, 20, 60, ScriptPages::setPage);
    }

    static void oneAfterTheOther() {
        Check.same("no elements, no pages", new ScriptPages().value(2), 0);
        set("a1;", "0:0+1", "1");
        set("a1;r1;s1;", "0:0+1 0:1+1 0:2+1", "3");
        ScriptPages x = Make.of(20, "r400;r400;");
        x.remove(0);
        x.remove(0);
        Check.same("no elements any more", x.value(2), 0);
        ScriptPages most = Scripts.sixtyLong(20);
        Check.same("sixty elements, sixty pages", most.value(2), 60);
        Check.text("the last page", Make.page(most, 59), "60 0 16 59 1");
        Check.text("the last element", Make.element(most, 59), "4 400 -1 16 -1 -1 59 0 16 0");
    }

    static void markBeginsPage() {
        ScriptPages first = Scripts.marked(20, "a1;");
        Check.text("a mark on an empty first page", Make.places(first), "0:0+1");
        ScriptPages full = Scripts.marked(20, "r400;r100;a1;");
        Check.text("a mark behind a full page", Make.places(full), "0:0+16 0:16+4 1:0+1");
        full.setPage(60);
        Check.text("a mark behind a page with room", Make.places(full), "0:0+16 0:16+4 1:0+1");
        full.insert(2, 1, 1, -1);
        Check.text("room for one without a mark", Make.places(full), "0:0+16 0:16+4 0:21+1 1:0+1");
        ScriptPages line = Scripts.marked(20, "r400;r400;");
        line.setLength(0, 1);
        Check.text("a mark behind one line", Make.places(line), "0:0+1 1:0+16");
        ScriptPages rest = Scripts.marked(20, "r400;s400;h1;");
        Check.text("a mark behind a rest", Make.places(rest), "0:0+16 0:16+3 2:0+1");
        ScriptPages marks = Scripts.marked(20, "r400;r400;r400;");
        marks.setLength(1, 1);
        Check.text("marks one behind the other", Make.places(marks), "0:0+16 1:0+1 2:0+16");
    }

    static void leastPart() {
        set("r400;r25;a240;", "0:0+16 0:16+1 0:18+2");
        set("r400;r50;a240;", "0:0+16 0:16+2 1:0+4");
        set("r400;r50;a400;", "0:0+16 0:16+2 1:0+7");
        set("r400;r25;a180;", "0:0+16 0:16+1 1:0+3");
        set("r400;a180;", "0:0+16 0:17+3");
        set("r400;r50;a60;", "0:0+16 0:16+2 0:19+1");
        set("r400;r50;a61;", "0:0+16 0:16+2 1:0+2");
        set("a400;a400;a60;s140;", "0:0+7 0:8+7 0:16+1 0:17+2");
        set("a400;a400;a120;s140;", "0:0+7 0:8+7 0:16+2 1:0+4");
        set("a400;a400;a120;s400;", "0:0+7 0:8+7 0:16+2 1:0+12");
        set("a400;a400;a60;s105;", "0:0+7 0:8+7 0:16+1 0:17+3");
        set("a400;a400;a120;s105;", "0:0+7 0:8+7 0:16+2 1:0+3");
        set("a400;a400;a120;s70;", "0:0+7 0:8+7 0:16+2 0:18+2");
    }

    static void needOfActionAndSpeech() {
        set("r400;r25;a400;", "0:0+16 0:16+1 0:18+2");
        set("a400;a400;a60;s400;", "0:0+7 0:8+7 0:16+1 0:17+2");
        set("r400;r50;a1;a400;", "0:0+16 0:16+2 0:19+1 1:0+7");
        set("r400;r50;a1;s1;", "0:0+16 0:16+2 0:19+1 1:0+1");
        set("a400;a400;a180;s1;s400;", "0:0+7 0:8+7 0:16+3 0:19+1 1:0+12");
        set("a400;a400;a180;s1;r1;", "0:0+7 0:8+7 0:16+3 0:19+1 1:0+1");
    }

    static void needsRunOn() {
        // Five lines are needed: five free, and four free.
        set("a400;a400;r25;r25;s105;", "0:0+7 0:8+7 0:15+1 0:16+1 0:17+3");
        set("r400;r25;r25;s105;", "0:0+16 1:0+1 1:1+1 1:2+3");
        set("r400;r25;s105;", "0:0+16 0:16+1 0:17+3");
        // Of a speech that may be split, three lines are needed.
        set("r400;r25;s400;", "0:0+16 0:16+1 0:17+2");
        set("a400;a400;a1;r25;s400;", "0:0+7 0:8+7 0:16+1 1:0+1 1:1+12");
        // A name needs a blank line, itself, a remark, and the speech behind the remark.
        set("a400;a360;n1;r1;s105;", "0:0+7 0:8+6 0:15+1 0:16+1 0:17+3");
        set("a400;a400;n1;r1;s105;", "0:0+7 0:8+7 1:0+1 1:1+1 1:2+3");
        // A name and a remark need no action, no name and no heading.
        set("r400;r50;n1;a1;", "0:0+16 0:16+2 0:19+1 1:0+1");
        set("r400;r50;n1;n1;", "0:0+16 0:16+2 0:19+1 1:0+1");
        set("r400;r50;n1;h1;", "0:0+16 0:16+2 0:19+1 1:0+1");
        set("a400;a400;a180;r1;a1;", "0:0+7 0:8+7 0:16+3 0:19+1 1:0+1");
        set("a400;a400;a180;r1;n1;", "0:0+7 0:8+7 0:16+3 0:19+1 1:0+1");
        set("a400;a400;a180;r1;h1;", "0:0+7 0:8+7 0:16+3 0:19+1 1:0+1");
        set("a400;a400;a180;r1;", "0:0+7 0:8+7 0:16+3 0:19+1");
        set("a400;a400;a180;r1;s1;", "0:0+7 0:8+7 0:16+3 1:0+1 1:1+1");
        set("a400;a400;a180;r1;r1;", "0:0+7 0:8+7 0:16+3 1:0+1 1:1+1");
        set("r400;r50;n1;r1;", "0:0+16 0:16+2 1:0+1 1:1+1");
        set("r400;r50;n1;s1;", "0:0+16 0:16+2 1:0+1 1:1+1");
        // Of a heading, the blank lines ahead of the name are counted: seven lines are free.
        set("a400;a300;h1;n1;s36;", "0:0+7 0:8+5 0:15+1 0:17+1 0:18+2");
        set("a400;a300;h1;n1;s71;", "0:0+7 0:8+5 1:0+1 1:2+1 1:3+3");
        set("a400;a300;h1;a400;", "0:0+7 0:8+5 0:15+1 0:17+3");
        needsEndAtMarks();
    }

    private static void needsEndAtMarks() {
        ScriptPages name = Scripts.marked(20, "r400;r50;n1;h1;s71;");
        Check.text("the mark of a heading", Make.marks(name), "1 - - 2 -");
        name.remove(3);
        Check.text("a name needs no speech with a mark", Make.places(name), "0:0+16 0:16+2 0:19+1 1:0+3");
        ScriptPages remark = Scripts.marked(20, "r400;r75;n1;r1;");
        Check.text("the mark of a name", Make.marks(remark), "1 - 2 -");
        remark.insert(2, 4, 1, -1);
        remark.remove(3);
        Check.text("a remark needs no remark with a mark", Make.places(remark), "0:0+16 0:16+3 0:19+1 1:0+1");
    }

    static void needOfHeading() {
        String[] items = {"a1;", "n1;", "s1;", "r1;"};
        int[] lines = {2, 2, 1, 1};
        for (int i = 0; i < items.length; i++) {
            for (int free = 3; free <= 6; free++) {
                boolean stays = 3 + lines[i] <= free;
                String above = "a1;r" + (19 - free) * 25 + ";";
                ScriptPages x = Make.of(20, above + "h1;" + items[i]);
                Check.same("a heading ahead of " + items[i] + " with " + free, x.element(2, 6), stays ? 0 : 1);
                ScriptPages y = Scripts.locked(20, above + "h400;");
                y.omit(0);
                y.insert(3, "hansr".indexOf(items[i].charAt(0)), 1, items[i].equals("n1;") ? 1 : -1);
                Check.same("an omitted heading ahead of " + items[i] + " with " + free, y.element(2, 6),
                        stays ? 0 : 1);
            }
        }
        set("a400;a400;a1;h1;", "0:0+7 0:8+7 0:16+1 0:19+1");
        set("a400;a400;a1;h1;h1;", "0:0+7 0:8+7 0:16+1 0:19+1 1:0+1");
        set("a400;a400;a1;h1;r1;", "0:0+7 0:8+7 0:16+1 1:0+1 1:1+1");
        ScriptPages marked = Scripts.marked(20, "r400;h1;h1;a1;");
        marked.remove(2);
        Check.text("a heading needs no action with a mark", Make.places(marked), "0:0+16 0:18+1 1:0+1");
    }

    static void needAndFree() {
        set("r400;h1;s1;", "0:0+16 0:18+1 0:19+1");
        set("r400;h1;a1;", "0:0+16 1:0+1 1:2+1");
        set("r400;r75;r1;", "0:0+16 0:16+3 0:19+1");
        set("a400;a400;a240;r1;", "0:0+7 0:8+7 0:16+4 1:0+1");
        set("r400;r50;a1;", "0:0+16 0:16+2 0:19+1");
        set("r400;r75;a1;", "0:0+16 0:16+3 1:0+1");
        // On an empty page a need that no page could meet begins no new page.
        set("r400;r400;s400;", "0:0+16 1:0+16 1:16+3");
        set("n1;r400;r400;s400;", "0:0+1 1:0+16 2:0+16 2:16+3");
        set("h400;a1;", "0:0+7 0:8+1");
        set("h1;r400;r400;", "0:0+1 1:0+16 2:0+16");
    }

    static void roomForAll() {
        set("r325;a360;", "0:0+13 0:14+6", "20");
        set("r325;a400;", "0:0+13 0:14+5", "19 2");
        set("a400;a360;s210;", "0:0+7 0:8+6 0:14+6", "20");
        set("a400;a360;s245;", "0:0+7 0:8+6 0:14+5", "20 3");
        Check.same("nothing is split if there is room", Make.of(20, "r325;a360;").value(7), 0);
        Check.same("one line less", Make.of(20, "r325;a400;").value(7), 1);
    }

    static void split() {
        set("r400;a400;", "0:0+16 0:17+3", "20 4");
        set("r400;r25;a400;", "0:0+16 0:16+1 0:18+2", "20 5");
        set("r400;a300;", "0:0+16 0:17+3", "20 2");
        set("r400;a240;", "0:0+16 0:17+2", "19 2");
        set("r400;s400;", "0:0+16 0:16+3", "20 10");
        set("r400;s210;", "0:0+16 0:16+3", "20 4");
        set("r400;s175;", "0:0+16 0:16+3", "20 3");
        set("a400;a360;s245;", "0:0+7 0:8+6 0:14+5", "20 3");
        set("a400;a400;s175;", "0:0+7 0:8+7 0:15+5", "20");
        set("a400;a400;s210;", "0:0+7 0:8+7 0:15+4", "20 3");
        set("a400;a400;a60;s140;", "0:0+7 0:8+7 0:16+1 0:17+2", "20 3");
        set("a400;a360;s240;s400;", "0:0+7 0:8+6 0:14+5 1:3+12", "20 15");
    }

    static void rest() {
        set("r400;a240;a1;", "0:0+16 0:17+2 1:3+1", "19 4");
        set("r400;a240;r1;", "0:0+16 0:17+2 1:2+1", "19 3");
        set("r400;s400;r1;", "0:0+16 0:16+3 1:10+1", "20 11");
        set("r400;s400;s1;", "0:0+16 0:16+3 1:10+1", "20 11");
        set("r325;s245;a1;", "0:0+13 0:13+7 1:0+1", "20 1");
        set("r325;s280;a1;", "0:0+13 0:13+6 1:4+1", "20 5");
        set("a400;a360;s245;n1;", "0:0+7 0:8+6 0:14+5 1:4+1", "20 5");
    }

    static void emptyPage() {
        for (int length = 25; length <= 400; length += 25) {
            ScriptPages x = Make.of(20, "r400;a400;a400;r" + length + ";h" + length + ";");
            x.lockPages();
            Check.same("a remark is set as a whole", x.element(3, 8), length / 25);
            Check.same("a heading is set as a whole", x.element(4, 8), (length + 59) / 60);
        }
        set("r400;", "0:0+16", "16");
        set("h400;", "0:0+7", "7");
        set("n1,400;", "0:0+1", "1");
        set("s400;", "0:0+12", "12");
        set("a400;", "0:0+7", "7");
        Check.same("nothing is split", Scripts.sixtyLong(20).value(7), 0);
    }
}
