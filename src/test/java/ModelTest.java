import java.util.Random;

/** Runs of chosen-by-seed calls on the class and on the model: all answers and exceptions are the same. */
final class ModelTest {
    private static final int RUNS = 1000;
    // An object is used for so many calls; what it answers later is free.
    private static final int CALLS = 512;
    private static final int[] ODD = {Integer.MIN_VALUE, -2, -1, 0, 1, 61, 401, Integer.MAX_VALUE};

    private final Random random;
    private final ScriptPages x = new ScriptPages();
    private final Model model = new Model();
    private final int run;
    // Where the run puts its weight: some runs are full of headings, some of speeches.
    private final int[] weights = new int[5];
    private final int longest;
    private int calls = 0;

    private ModelTest(int run) {
        this.run = run;
        random = new Random(7919L * run + 17);
        for (int k = 0; k < 5; k++) {
            weights[k] = 1 + random.nextInt(8);
        }
        longest = random.nextBoolean() ? 400 : 120;
    }

    private interface Ask {
        Object answer();
    }

    private static Object outcome(Ask ask) {
        try {
            return ask.answer();
        } catch (RuntimeException e) {
            return e.getClass().getName();
        }
    }

    private void both(String call, Ask mine, Ask due) {
        if (calls >= CALLS) {
            return;
        }
        calls++;
        Object got = outcome(mine);
        Object want = outcome(due);
        Check.yes("run " + run + ": " + call + " answered " + got + ", due is " + want, got.equals(want));
    }

    private int some(int from, int to) {
        if (random.nextInt(25) == 0) {
            return random.nextInt(3) == 0 ? ODD[random.nextInt(ODD.length)] : random.nextBoolean() ? from - 1 : to + 1;
        }
        return to < from ? from : from + random.nextInt(to - from + 1);
    }

    private int someKind() {
        int all = 0;
        for (int w : weights) {
            all += w;
        }
        int at = random.nextInt(all);
        int kind = 0;
        while (at >= weights[kind]) {
            at -= weights[kind];
            kind++;
        }
        return random.nextInt(30) == 0 ? some(0, 4) : kind;
    }

    private void insert() {
        int i = some(0, model.value(0));
        int kind = someKind();
        int length = some(1, longest);
        int person = kind == 2 ? some(0, 2) : random.nextInt(30) == 0 ? some(0, 9) : -1;
        both("insert(" + i + ", " + kind + ", " + length + ", " + person + ")",
                () -> x.insert(i, kind, length, person), () -> model.insert(i, kind, length, person));
    }

    private void append(String text) {
        for (int i = 0; i < text.length(); i++) {
            char c = text.charAt(i);
            both("append(" + (int) c + ")", () -> x.append(c), () -> model.append(c));
        }
    }

    private String item() {
        int kind = someKind();
        char letter = kind < 0 || kind > 4 ? 'x' : "hansr".charAt(kind);
        String length = String.valueOf(some(1, longest));
        if (random.nextInt(20) == 0) {
            length = "00" + length;
        }
        if (letter != 'n') {
            return letter + length + ";";
        }
        return letter + String.valueOf(random.nextInt(3)) + (random.nextBoolean() ? "," + length : "") + ";";
    }

    private void text() {
        if (random.nextInt(4) == 0) {
            both("clearText()", x::clearText, model::clearText);
        }
        StringBuilder text = new StringBuilder();
        for (int i = random.nextInt(12); i > 0; i--) {
            text.append(item());
        }
        if (random.nextInt(4) == 0 && text.length() > 0) {
            String odd = ";,0123456789hansrx \u007f\u0000";
            text.setCharAt(random.nextInt(text.length()), odd.charAt(random.nextInt(odd.length())));
        }
        if (random.nextInt(6) == 0 && text.length() > 0) {
            text.setLength(random.nextInt(text.length()));
        }
        append(text.toString());
        both("parse() of " + text, x::parse, model::parse);
    }

    private void change() {
        int n = model.value(0);
        int s = model.value(1);
        int i = some(0, n - 1);
        int length = some(1, 400);
        switch (random.nextInt(24)) {
            case 0:
            case 1: both("remove(" + i + ")", () -> x.remove(i), () -> model.remove(i)); break;
            case 2:
            case 3: both("setLength(" + i + ", " + length + ")", () -> x.setLength(i, length),
                    () -> model.setLength(i, length)); break;
            case 4: {
                int lines = some(20, random.nextBoolean() ? 26 : 60);
                both("setPage(" + lines + ")", () -> x.setPage(lines), () -> model.setPage(lines));
                break;
            }
            case 5: both("lockScenes()", x::lockScenes, model::lockScenes); break;
            case 6: {
                int scene = some(0, s - 1);
                both("omit(" + scene + ")", () -> x.omit(scene), () -> model.omit(scene));
                break;
            }
            case 7: both("lockPages()", x::lockPages, model::lockPages); break;
            case 8:
            case 9: for (int u = random.nextInt(3); u >= 0; u--) {
                both("undo()", x::undo, model::undo);
            } break;
            case 10: if (random.nextInt(4) == 0) {
                text();
            } break;
            default: insert();
        }
    }

    private void ask() {
        int i = some(0, model.value(0) - 1);
        int s = some(0, model.value(1) - 1);
        int p = some(0, model.value(2) - 1);
        int what = some(0, 9);
        int lines = some(20, 60);
        int length = some(1, 400);
        boolean carried = random.nextBoolean();
        switch (random.nextInt(14)) {
            case 0: both("value(" + what + ")", () -> x.value(what), () -> model.value(what)); break;
            case 1: both("element(" + i + ", " + what + ")", () -> x.element(i, what), () -> model.element(i, what));
                break;
            case 2: both("scene(" + s + ", " + what + ")", () -> x.scene(s, what), () -> model.scene(s, what)); break;
            case 3: both("page(" + p + ", " + what + ")", () -> x.page(p, what), () -> model.page(p, what)); break;
            case 4: {
                int a = some(0, 4);
                int b = some(0, 2);
                int c = some(0, 2);
                both("find(" + a + ", " + b + ", " + c + ")", () -> x.find(a, b, c), () -> model.find(a, b, c));
                break;
            }
            case 5: both("names(" + what + ", " + carried + ")", () -> x.names(what, carried),
                    () -> model.names(what, carried)); break;
            case 6: both("used()", x::used, model::used); break;
            case 7: both("pagesWith(" + lines + ")", () -> x.pagesWith(lines), () -> model.pagesWith(lines)); break;
            case 8: {
                int most = some(0, random.nextBoolean() ? 60 : 20);
                both("smallestPage(" + most + ")", () -> x.smallestPage(most), () -> model.smallestPage(most));
                break;
            }
            case 9: both("pagesBy(" + i + ", " + length + ")", () -> x.pagesBy(i, length),
                    () -> model.pagesBy(i, length)); break;
            case 10: if (random.nextInt(5) == 0) {
                both("greatestLength(" + i + ")", () -> x.greatestLength(i), () -> model.greatestLength(i));
            } break;
            default: break;
        }
    }

    private void play() {
        while (calls < CALLS) {
            change();
            ask();
            if (random.nextInt(6) == 0 || calls == CALLS - 1) {
                both("digest()", x::digest, model::digest);
            }
        }
    }

    public static void main(String[] args) {
        int runs = args.length > 0 ? Integer.parseInt(args[0]) : RUNS;
        for (int run = 1; run <= runs; run++) {
            new ModelTest(run).play();
        }
        Check.end();
    }
}
