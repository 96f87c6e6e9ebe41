/** A refused call: it throws what the document names, changes nothing, and leaves nothing behind. */
final class Refusal {
    interface Call {
        long on(ScriptPages x);
    }

    /** A call with one argument that may be out of range. */
    interface Reach {
        long on(ScriptPages x, int value);
    }

    static final Class<IndexOutOfBoundsException> INDEX = IndexOutOfBoundsException.class;
    static final Class<IllegalArgumentException> ARGUMENT = IllegalArgumentException.class;
    static final Class<IllegalStateException> STATE = IllegalStateException.class;

    /** What may come next: a change would bring to light what a refused call had left behind. */
    private static final Call[] NEXT = {
        x -> x.insert(0, 4, 31, -1), x -> x.insert(1, 0, 31, -1), x -> x.insert(0, 2, 5, 9), x -> x.remove(1),
        x -> x.setLength(0, 80), x -> x.setPage(24), ScriptPages::lockScenes, x -> x.omit(0), ScriptPages::lockPages,
        x -> x.append('a'), ScriptPages::clearText, ScriptPages::parse, x -> x.pagesWith(33), x -> x.pagesBy(0, 400),
        x -> x.smallestPage(1), x -> x.greatestLength(0),
    };

    private Refusal() {
    }

    static String outcome(ScriptPages x, Call call) {
        try {
            return String.valueOf(call.on(x));
        } catch (RuntimeException e) {
            return e.getClass().getSimpleName();
        }
    }

    /** The call is refused on what each of the makers makes. */
    static void on(String what, Scripts.Maker[] makers, Class<? extends RuntimeException> kind, Call call) {
        for (int i = 0; i < makers.length; i++) {
            on(what + " (script " + i + ")", makers[i], kind, call);
        }
    }

    static void on(String what, Scripts.Maker maker, Class<? extends RuntimeException> kind, Call call) {
        ScriptPages x = maker.make();
        String before = Answers.of(x);
        Check.text(what, outcome(x, call), kind.getSimpleName());
        Check.text(what + ", then all answers", Answers.of(x), before);
        undoes(what, maker, call);
        for (int i = 0; i < NEXT.length; i++) {
            ScriptPages refused = maker.make();
            ScriptPages other = maker.make();
            outcome(refused, call);
            Check.text(what + ", then call " + i, outcome(refused, NEXT[i]), outcome(other, NEXT[i]));
            Check.same(what + ", then the digest behind call " + i, refused.digest(), other.digest());
        }
    }

    private static void undoes(String what, Scripts.Maker maker, Call call) {
        ScriptPages refused = maker.make();
        ScriptPages other = maker.make();
        outcome(refused, call);
        for (int i = 0; i < 5; i++) {
            Check.text(what + ", then undo()", outcome(refused, ScriptPages::undo), outcome(other, ScriptPages::undo));
            Check.same(what + ", then the digest behind undo()", refused.digest(), other.digest());
        }
    }

    /** All values outside of low to high are refused: the neighbours, what would wrap around, and the far ends. */
    static void outside(String what, Scripts.Maker[] makers, Class<? extends RuntimeException> kind,
            int low, int high, Reach reach) {
        for (int value : outsiders(low, high)) {
            on(what + " of " + value, makers, kind, x -> reach.on(x, value));
        }
    }

    static void outside(String what, Scripts.Maker maker, Class<? extends RuntimeException> kind,
            int low, int high, Reach reach) {
        outside(what, new Scripts.Maker[] {maker}, kind, low, high, reach);
    }

    static int[] outsiders(int low, int high) {
        return new int[] {low - 1, high + 1, high + 1000, low + 65536, low - 65536, Integer.MIN_VALUE,
            Integer.MIN_VALUE + 1, Integer.MIN_VALUE + low, Integer.MAX_VALUE - 1, Integer.MAX_VALUE};
    }
}
