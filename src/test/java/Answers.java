/**
 * What a screenplay answers, in one text. It takes some hundred calls, as an object is used for 512 at most:
 * the digest has all of promises 9 to 12, and of each of these some are asked for directly, too.
 */
final class Answers {
    private Answers() {
    }

    static String of(ScriptPages x) {
        StringBuilder all = new StringBuilder("digest ").append(x.digest());
        all.append(" values ").append(Make.values(x));
        all.append(" used ").append(x.used());
        names(x, all);
        elements(x, all);
        scenes(x, all);
        pages(x, all);
        whatIf(x, all);
        return all.toString();
    }

    private static void names(ScriptPages x, StringBuilder all) {
        all.append(" names");
        for (int person = 0; person <= 9; person++) {
            all.append(' ').append(x.names(person, false)).append(' ').append(x.names(person, true));
        }
    }

    private static void elements(ScriptPages x, StringBuilder all) {
        int last = x.value(0) - 1;
        if (last >= 0) {
            all.append(" first ").append(Make.element(x, 0)).append(" last ").append(Make.element(x, last));
            all.append(" greatest ").append(x.greatestLength(0)).append(' ').append(x.greatestLength(last));
            all.append(" by ").append(x.pagesBy(0, 1)).append(' ').append(x.pagesBy(last, 400));
        }
    }

    private static void scenes(ScriptPages x, StringBuilder all) {
        int last = x.value(1) - 1;
        if (last >= 0) {
            all.append(" first ").append(Make.scene(x, 0)).append(" last ").append(Make.scene(x, last));
        }
        all.append(" found ").append(x.find(1, 0, 0)).append(' ').append(x.find(0, 1, 0)).append(' ')
                .append(x.find(1, 1, 0)).append(' ').append(x.find(2, 0, 0));
    }

    private static void pages(ScriptPages x, StringBuilder all) {
        int last = x.value(2) - 1;
        if (last >= 0) {
            all.append(" first ").append(Make.page(x, 0)).append(" last ").append(Make.page(x, last));
        }
    }

    private static void whatIf(ScriptPages x, StringBuilder all) {
        all.append(" with ").append(x.pagesWith(20)).append(' ').append(x.pagesWith(37)).append(' ')
                .append(x.pagesWith(60));
        all.append(" smallest ").append(x.smallestPage(0)).append(' ').append(x.smallestPage(1)).append(' ')
                .append(x.smallestPage(3)).append(' ').append(x.smallestPage(60));
    }
}
