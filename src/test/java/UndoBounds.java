import java.math.BigInteger;

/** Boundary cases of "Undo" and "Exceptions", and of promises 1, 23 and 24. */
final class UndoBounds {
    private static final Refusal.Call[] UNDOABLE = {
        x -> x.insert(0, 1, 1, -1), x -> x.remove(1), x -> x.setLength(0, 77), x -> x.setPage(44),
        ScriptPages::lockScenes, x -> x.omit(0), ScriptPages::lockPages, ScriptPages::parse,
    };
    private static final Refusal.Call[] QUESTIONS = {
        x -> x.value(0), x -> x.element(0, 0), x -> x.scene(0, 0), x -> x.page(0, 0), x -> x.find(1, 0, 0),
        x -> x.names(1, true), x -> (long) x.used(), x -> x.pagesWith(30), x -> x.smallestPage(3),
        x -> x.pagesBy(0, 30), x -> x.greatestLength(0), x -> x.append('a'), ScriptPages::clearText,
        ScriptPages::digest,
    };

    private UndoBounds() {
    }

    static void fourStates() {
        ScriptPages x = new ScriptPages();
        for (int lines = 20; lines <= 26; lines++) {
            x.setPage(lines);
        }
        for (int left = 3; left >= 0; left--) {
            Check.same("undo()", x.undo(), left);
            Check.same("L", x.value(3), left + 22);
        }
        Refusal.on("the oldest ones are dropped", UndoBounds::undone, Refusal.STATE, ScriptPages::undo);
        x.setPage(30);
        x.setPage(31);
        Check.same("saved again", x.undo(), 1);
        Check.same("L again", x.value(3), 30);
        x.setPage(32);
        x.setPage(33);
        x.setPage(34);
        x.setPage(35);
        Check.same("four again", x.undo(), 3);
        Check.same("the latest first", x.value(3), 34);
        changesNothing();
        for (int i = 0; i < UNDOABLE.length; i++) {
            ScriptPages y = undone();
            UNDOABLE[i].on(y);
            Check.same("undoable: call " + i, y.undo(), 0);
        }
        for (int i = 0; i < QUESTIONS.length; i++) {
            int question = i;
            Refusal.on("not undoable: call " + i, () -> {
                ScriptPages y = undone();
                QUESTIONS[question].on(y);
                return y;
            }, Refusal.STATE, ScriptPages::undo);
        }
    }

    /** Two scenes, the first one locked and not omitted, and no saved state. */
    private static ScriptPages undone() {
        ScriptPages x = Scripts.locked(20, "h1;a400;s400;h1;a1;");
        x.setPage(21);
        x.setPage(22);
        x.setPage(23);
        x.setPage(24);
        Scripts.forget(x);
        return x;
    }

    private static void changesNothing() {
        ScriptPages x = new ScriptPages();
        x.lockScenes();
        x.lockPages();
        x.parse();
        x.setPage(50);
        for (int left = 3; left >= 0; left--) {
            Check.same("a call that changes nothing is saved", x.undo(), left);
        }
        ScriptPages y = new ScriptPages();
        y.insert(0, 1, 70, -1);
        y.setLength(0, 70);
        Check.same("a length that is the same", y.undo(), 1);
    }

    static void allButText() {
        for (int i = 0; i < UNDOABLE.length; i++) {
            ScriptPages y = locked();
            Scripts.forget(y);
            String before = Answers.of(y);
            UNDOABLE[i].on(y);
            y.undo();
            Check.text("all is back behind call " + i, Answers.of(y), before);
        }
        ScriptPages all = locked();
        all.remove(7);
        all.lockScenes();
        all.parse();
        all.undo();
        all.undo();
        all.undo();
        Check.same("the person", all.element(7, 2), 1);
        Check.text("the element", Make.element(all, 1), "1 400 -1 7 0 -1 0 2 7 0");
        Check.text("the marks", Make.marks(all), "1 - - 2 - 3 - - 4");
        Check.text("the locked scene", Make.scene(all, 0), "1 0 0 1 0 0 3 20 7 0");
        Check.text("the omitted scene", Make.scene(all, 1), "2 0 0 1 1 3 1 1 1 1");
        Check.text("the open scene", Make.scene(all, 2), "2 1 0 0 0 4 1 2 1 1");
        Check.same("L", all.value(3), 23);
        ScriptPages labels = Scripts.crowded();
        labels.parse();
        labels.undo();
        Check.text("all numbers of locked labels", Make.labels(labels), "1.0.0 1.0.1 1.1.0 2.0.0");
        ScriptPages x = Make.of("a1;n1;");
        x.clearText();
        Scripts.append(x, "h1;h1;h1;");
        x.undo();
        Check.same("the text does not go back", x.parse(), 3);
        Check.same("its length neither", x.clearText(), 9);
        x.undo();
        Check.same("nor does it come back", x.parse(), 0);
    }

    /** Locks, an omitted scene, an open one and page marks, all in the state that undo can't reach behind. */
    private static ScriptPages locked() {
        ScriptPages x = Scripts.locked(20, "h1;a400;s400;h1;a1;h99;r400;n1;n1;");
        x.omit(1);
        x.insert(4, 0, 61, -1);
        x.lockPages();
        x.setPage(60);
        x.setPage(23);
        x.setLength(1, 399);
        x.setLength(1, 400);
        return x;
    }

    static void refusedChangesNothing() {
        Refusal.on("insert, index", Scripts.ALL, Refusal.INDEX, x -> x.insert(61, 1, 1, -1));
        Refusal.on("insert, kind", Scripts.ALL, Refusal.ARGUMENT, x -> x.insert(0, 5, 1, -1));
        Refusal.on("insert, 60", Scripts::full, Refusal.STATE, x -> x.insert(0, 1, 1, -1));
        Refusal.on("insert, label", Scripts::crowded, Refusal.STATE, x -> x.insert(1, 0, 1, -1));
        Refusal.on("remove, index", Scripts.ALL, Refusal.INDEX, x -> x.remove(60));
        Refusal.on("remove, locked", Scripts::rich, Refusal.STATE, x -> x.remove(0));
        Refusal.on("setLength, index", Scripts.ALL, Refusal.INDEX, x -> x.setLength(60, 1));
        Refusal.on("setLength, length", Scripts.WITH_ELEMENTS, Refusal.ARGUMENT, x -> x.setLength(0, 401));
        Refusal.on("setPage", Scripts.ALL, Refusal.ARGUMENT, x -> x.setPage(61));
        Refusal.on("omit, scene", Scripts.ALL, Refusal.INDEX, x -> x.omit(60));
        Refusal.on("omit, not locked", Scripts::full, Refusal.STATE, x -> x.omit(0));
        Refusal.on("omit, omitted", Scripts::rich, Refusal.STATE, x -> x.omit(2));
        Refusal.on("value", Scripts.ALL, Refusal.ARGUMENT, x -> x.value(8));
        Refusal.on("element, index", Scripts.ALL, Refusal.INDEX, x -> x.element(60, 0));
        Refusal.on("element, what", Scripts.WITH_ELEMENTS, Refusal.ARGUMENT, x -> x.element(0, 10));
        Refusal.on("scene, scene", Scripts.ALL, Refusal.INDEX, x -> x.scene(60, 0));
        Refusal.on("scene, what", Scripts.WITH_SCENES, Refusal.ARGUMENT, x -> x.scene(0, 10));
        Refusal.on("page, page", Scripts.ALL, Refusal.INDEX, x -> x.page(60, 0));
        Refusal.on("page, what", Scripts.WITH_ELEMENTS, Refusal.ARGUMENT, x -> x.page(0, 5));
        Refusal.on("names", Scripts.ALL, Refusal.ARGUMENT, x -> x.names(10, false));
        Refusal.on("pagesWith", Scripts.ALL, Refusal.ARGUMENT, x -> x.pagesWith(61));
        Refusal.on("smallestPage", Scripts.ALL, Refusal.ARGUMENT, x -> x.smallestPage(61));
        Refusal.on("pagesBy, index", Scripts.ALL, Refusal.INDEX, x -> x.pagesBy(60, 1));
        Refusal.on("pagesBy, length", Scripts.WITH_ELEMENTS, Refusal.ARGUMENT, x -> x.pagesBy(0, 401));
        Refusal.on("greatestLength", Scripts.ALL, Refusal.INDEX, x -> x.greatestLength(60));
        Refusal.on("append, value", Scripts.ALL, Refusal.ARGUMENT, x -> x.append(128));
        Refusal.on("append, 200 bytes", Scripts::fullText, Refusal.STATE, x -> x.append('a'));
        Refusal.on("undo", Scripts::empty, Refusal.STATE, ScriptPages::undo);
    }

    static void listedFirst() {
        Refusal.on("insert, index and kind", Scripts.ALL, Refusal.INDEX, x -> x.insert(-1, 5, 1, -1));
        Refusal.on("insert, index and length", Scripts.ALL, Refusal.INDEX, x -> x.insert(61, 1, 401, -1));
        Refusal.on("insert, index and person", Scripts.ALL, Refusal.INDEX, x -> x.insert(61, 2, 1, 10));
        Refusal.on("insert, index and 60", Scripts::full, Refusal.INDEX, x -> x.insert(61, 1, 1, -1));
        Refusal.on("insert, kind and 60", Scripts::full, Refusal.ARGUMENT, x -> x.insert(60, -1, 1, -1));
        Refusal.on("insert, length and 60", Scripts::full, Refusal.ARGUMENT, x -> x.insert(60, 1, 0, -1));
        Refusal.on("insert, person and 60", Scripts::full, Refusal.ARGUMENT, x -> x.insert(60, 1, 1, 0));
        Refusal.on("insert, all of them", Scripts::full, Refusal.INDEX, x -> x.insert(61, 5, 0, 10));
        Refusal.on("insert, length and label", Scripts::crowded, Refusal.ARGUMENT, x -> x.insert(1, 0, 401, -1));
        Refusal.on("insert, person and label", Scripts::crowded, Refusal.ARGUMENT, x -> x.insert(1, 0, 1, 0));
        Refusal.on("setLength, index and length", Scripts.ALL, Refusal.INDEX, x -> x.setLength(60, 0));
        Refusal.on("setLength, both of none", Scripts::empty, Refusal.INDEX, x -> x.setLength(0, 401));
        Refusal.on("element, index and what", Scripts.ALL, Refusal.INDEX, x -> x.element(-1, 10));
        Refusal.on("element, both of none", Scripts::empty, Refusal.INDEX, x -> x.element(0, -1));
        Refusal.on("scene, scene and what", Scripts.ALL, Refusal.INDEX, x -> x.scene(60, -1));
        Refusal.on("scene, both of none", Scripts::one, Refusal.INDEX, x -> x.scene(0, 10));
        Refusal.on("page, page and what", Scripts.ALL, Refusal.INDEX, x -> x.page(60, 5));
        Refusal.on("page, both of none", Scripts::empty, Refusal.INDEX, x -> x.page(0, -1));
        Refusal.on("pagesBy, index and length", Scripts.ALL, Refusal.INDEX, x -> x.pagesBy(60, 401));
        Refusal.on("pagesBy, both of none", Scripts::empty, Refusal.INDEX, x -> x.pagesBy(0, 0));
        Refusal.on("append, value and 200 bytes", Scripts::fullText, Refusal.ARGUMENT, x -> x.append(128));
        Refusal.on("append, less and 200 bytes", Scripts::fullText, Refusal.ARGUMENT, x -> x.append(-1));
    }

    // ---- promise 1

    static void newObject() {
        ScriptPages x = new ScriptPages();
        Check.text("values", Make.values(x), "0 0 0 50 0 0 0 0");
        Check.sameDouble("used()", x.used(), 0.0);
        Check.same("the text is empty", x.clearText(), 0);
        Check.same("no locks", x.lockScenes(), 0);
        Check.same("it is the only state", x.undo(), 0);
        Refusal.on("no element", Scripts::empty, Refusal.INDEX, y -> y.element(0, 0));
        Refusal.on("no scene", Scripts::empty, Refusal.INDEX, y -> y.scene(0, 0));
        Refusal.on("no page", Scripts::empty, Refusal.INDEX, y -> y.page(0, 0));
        Refusal.on("no saved state", Scripts::empty, Refusal.STATE, ScriptPages::undo);
        ScriptPages other = new ScriptPages();
        x.insert(0, 0, 1, -1);
        x.append('a');
        Check.text("another object stays as it is", Answers.of(other), Answers.of(new ScriptPages()));
    }

    // ---- promise 23

    static void undoRestores() {
        ScriptPages x = new ScriptPages();
        String none = Answers.of(x);
        x.insert(0, 0, 61, -1);
        long one = x.digest();
        x.lockScenes();
        String locked = Answers.of(x);
        x.omit(0);
        x.undo();
        Check.text("behind omit", Answers.of(x), locked);
        x.undo();
        Check.same("behind lockScenes", x.digest(), one);
        x.undo();
        Check.text("behind insert", Answers.of(x), none);
        long empty = x.digest();
        x.insert(0, 2, 1, 3);
        x.undo();
        Check.same("a state that is removed does not come back", x.digest(), empty);
        ScriptPages full = Scripts.full();
        full.remove(0);
        full.undo();
        Check.same("the first of sixty", full.element(0, 0), 0);
        Make.parse(full, "");
        full.undo();
        Check.text("sixty elements", Make.values(full), "60 12 6 20 0 0 0 0");
        Check.text("the last of sixty", Make.element(full, 59), "4 9 -1 1 11 -1 5 15 1 0");
    }

    static void undoReturns() {
        ScriptPages x = new ScriptPages();
        x.setPage(20);
        Check.same("the only state", x.undo(), 0);
        x.setPage(20);
        x.setPage(21);
        Check.same("one of two", x.undo(), 1);
        x.setPage(22);
        x.setPage(23);
        x.setPage(24);
        Check.same("one of four", x.undo(), 3);
        x.setPage(24);
        x.setPage(25);
        Check.same("one of five, which are four", x.undo(), 3);
        Check.same("the next one", x.undo(), 2);
    }

    static void undoRefused() {
        Refusal.on("a new object", Scripts::empty, Refusal.STATE, ScriptPages::undo);
        Refusal.on("all states taken back", UndoBounds::undone, Refusal.STATE, ScriptPages::undo);
        Refusal.on("no state behind a text with an error", () -> {
            ScriptPages x = new ScriptPages();
            x.append('x');
            x.parse();
            return x;
        }, Refusal.STATE, ScriptPages::undo);
    }

    // ---- promise 24

    /** The hash without any overflow, which is cut off at the very end. */
    private static BigInteger plus(BigInteger h, long value) {
        return h.multiply(BigInteger.valueOf(31)).add(BigInteger.valueOf(value));
    }

    private static BigInteger hash(ScriptPages x, int textLength, int states) {
        BigInteger h = plus(BigInteger.valueOf(3331), textLength);
        for (int what = 0; what <= 7; what++) {
            h = plus(h, x.value(what));
        }
        int[] counts = {x.value(0), x.value(1), x.value(2)};
        int[] facts = {10, 10, 5};
        for (int part = 0; part < 3; part++) {
            for (int i = 0; i < counts[part]; i++) {
                for (int what = 0; what < facts[part]; what++) {
                    h = plus(h, part == 0 ? x.element(i, what) : part == 1 ? x.scene(i, what) : x.page(i, what));
                }
            }
        }
        return plus(h, states);
    }

    static void digestOfState() {
        ScriptPages none = new ScriptPages();
        Check.same("a new object", none.digest(), hash(none, 0, 0).longValue());
        none.append('a');
        Check.same("the length of the text", none.digest(), hash(none, 1, 0).longValue());
        none.lockPages();
        Check.same("the saved states", none.digest(), hash(none, 1, 1).longValue());
        ScriptPages rich = Scripts.rich();
        Check.same("all that there is", rich.digest(), hash(rich, 41, 4).longValue());
        Check.same("200 bytes", Scripts.fullText().digest(), hash(Scripts.fullText(), 200, 2).longValue());
    }

    static void digestOverflows() {
        ScriptPages none = new ScriptPages();
        BigInteger small = hash(none, 0, 0);
        Check.yes("a new object's hash is a long", small.bitLength() <= 63);
        Check.same("no overflow", none.digest(), small.longValue());
        ScriptPages one = new ScriptPages();
        one.insert(0, 1, 1, -1);
        BigInteger large = hash(one, 0, 1);
        Check.yes("an element makes it overflow", large.bitLength() > 64);
        Check.same("overflow", one.digest(), large.longValue());
        boolean negative = false;
        for (int length = 1; length <= 9; length++) {
            one.setLength(0, length);
            long got = one.digest();
            negative |= got < 0;
            Check.same("overflow of length " + length, got, hash(one, 0, length < 3 ? length + 1 : 4).longValue());
        }
        Check.yes("a digest below 0", negative);
    }
}
