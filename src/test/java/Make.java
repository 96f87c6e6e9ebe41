/** Makes objects from texts, as a test reads best. */
final class Make {
    private Make() {
    }

    static ScriptPages of(String text) {
        return of(50, text);
    }

    static ScriptPages of(int lines, String text) {
        ScriptPages x = new ScriptPages();
        x.setPage(lines);
        int answer = parse(x, text);
        if (answer < 0) {
            throw new IllegalStateException("a wrong text in a test: " + text);
        }
        return x;
    }

    static int parse(ScriptPages x, String text) {
        x.clearText();
        for (int i = 0; i < text.length(); i++) {
            x.append(text.charAt(i));
        }
        return x.parse();
    }

    static String times(int times, String item) {
        return item.repeat(times);
    }

    /** All answers about an element, in their order. */
    static String element(ScriptPages x, int index) {
        StringBuilder all = new StringBuilder();
        for (int what = 0; what < 10; what++) {
            all.append(what == 0 ? "" : " ").append(x.element(index, what));
        }
        return all.toString();
    }

    static String scene(ScriptPages x, int scene) {
        StringBuilder all = new StringBuilder();
        for (int what = 0; what < 10; what++) {
            all.append(what == 0 ? "" : " ").append(x.scene(scene, what));
        }
        return all.toString();
    }

    static String page(ScriptPages x, int page) {
        StringBuilder all = new StringBuilder();
        for (int what = 0; what < 5; what++) {
            all.append(what == 0 ? "" : " ").append(x.page(page, what));
        }
        return all.toString();
    }

    static String values(ScriptPages x) {
        StringBuilder all = new StringBuilder();
        for (int what = 0; what < 8; what++) {
            all.append(what == 0 ? "" : " ").append(x.value(what));
        }
        return all.toString();
    }

    /** The labels of all scenes. */
    static String labels(ScriptPages x) {
        StringBuilder all = new StringBuilder();
        for (int s = 0; s < x.value(1); s++) {
            all.append(s == 0 ? "" : " ").append(x.scene(s, 0)).append('.').append(x.scene(s, 1))
                    .append('.').append(x.scene(s, 2));
        }
        return all.toString();
    }

    /** The labels of all pages. */
    static String pageLabels(ScriptPages x) {
        StringBuilder all = new StringBuilder();
        for (int p = 0; p < x.value(2); p++) {
            all.append(p == 0 ? "" : " ").append(x.page(p, 0)).append('.').append(x.page(p, 1));
        }
        return all.toString();
    }

    /** The numbers of the page marks, "-" for elements without one. */
    static String marks(ScriptPages x) {
        StringBuilder all = new StringBuilder();
        for (int i = 0; i < x.value(0); i++) {
            int mark = x.element(i, 5);
            all.append(i == 0 ? "" : " ").append(mark == ScriptPages.NONE ? "-" : String.valueOf(mark));
        }
        return all.toString();
    }

    /** For each element its page, its line and its lines there. */
    static String places(ScriptPages x) {
        StringBuilder all = new StringBuilder();
        for (int i = 0; i < x.value(0); i++) {
            all.append(i == 0 ? "" : " ").append(x.element(i, 6)).append(':').append(x.element(i, 7))
                    .append('+').append(x.element(i, 8));
        }
        return all.toString();
    }

    /** The lines that are used on each page. */
    static String fills(ScriptPages x) {
        StringBuilder all = new StringBuilder();
        for (int p = 0; p < x.value(2); p++) {
            all.append(p == 0 ? "" : " ").append(x.page(p, 2));
        }
        return all.toString();
    }
}
