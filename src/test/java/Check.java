/** Counts and prints the answers that are not as due. */
final class Check {
    interface Call {
        void run();
    }

    private static int wrong = 0;
    private static int asked = 0;

    private Check() {
    }

    static void same(String what, long got, long due) {
        asked++;
        if (got != due) {
            report(what + " answered " + got + ", due is " + due);
        }
    }

    static void sameDouble(String what, double got, double due) {
        asked++;
        if (got != due) {
            report(what + " answered " + got + ", due is " + due);
        }
    }

    static void text(String what, String got, String due) {
        asked++;
        if (!got.equals(due)) {
            report(what + " answered " + got + ", due is " + due);
        }
    }

    static void yes(String what, boolean holds) {
        asked++;
        if (!holds) {
            report(what);
        }
    }

    /** The call throws exactly this exception, and the digest of the object stays. */
    static void refuses(String what, ScriptPages x, Class<? extends RuntimeException> kind, Call call) {
        asked++;
        long before = x.digest();
        try {
            call.run();
            report(what + " threw nothing, due is " + kind.getSimpleName());
        } catch (RuntimeException e) {
            if (e.getClass() != kind) {
                report(what + " threw " + e.getClass().getSimpleName() + ", due is " + kind.getSimpleName());
            }
        }
        if (x.digest() != before) {
            report(what + " was refused, but changed the state");
        }
    }

    static int asked() {
        return asked;
    }

    static int wrong() {
        return wrong;
    }

    static void report(String line) {
        wrong++;
        if (wrong <= 40) {
            System.out.println(line);
        }
    }

    static void end() {
        System.out.println(asked + " answers asked for, " + wrong + " not as due");
        if (wrong != 0) {
            System.exit(1);
        }
    }
}
