/** A setter of screenplay pages. See the document for what each method promises. */
public final class ScriptPages {
    public static final int NONE = -1;

    private static final int HEADING = 0;
    private static final int ACTION = 1;
    private static final int NAME = 2;
    private static final int SPEECH = 3;
    private static final int REMARK = 4;

    private static final int MOST_ELEMENTS = 60;
    // Each element turns at most one page: on an empty page none is split.
    private static final int MOST_PAGES = MOST_ELEMENTS;
    private static final int MOST_LENGTH = 400;
    private static final int MOST_PERSON = 9;
    private static final int MOST_BYTES = 200;
    private static final int MOST_STATES = 4;
    private static final int LEAST_LINES = 20;
    private static final int MOST_LINES = 60;
    private static final int FIRST_LINES = 50;

    private static final int VALUES = 8;
    private static final int ELEMENT_FACTS = 10;
    private static final int SCENE_FACTS = 10;
    private static final int PAGE_FACTS = 5;

    private final Script script;
    // Every change is made on the draft first, so that a refused one leaves no trace.
    private final Script draft;
    private final Scenes scenes;
    private final Scenes draftScenes;
    private final Pages pages;
    private final Pages draftPages;
    private final History history;
    private final Row text;
    private int textLength;

    public ScriptPages() {
        script = new Script();
        draft = new Script();
        scenes = new Scenes();
        draftScenes = new Scenes();
        pages = new Pages();
        draftPages = new Pages();
        history = new History();
        text = new Row(MOST_BYTES);
        textLength = 0;
    }

    // ---- elements

    public int insert(int index, int kind, int length, int person)
            throws IndexOutOfBoundsException, IllegalArgumentException, IllegalStateException {
        if (index < 0 || index > script.size) {
            throw new IndexOutOfBoundsException("index is out of range");
        }
        if (!isKind(kind) || !isLength(length) || !isPersonOf(kind, person)) {
            throw new IllegalArgumentException("kind, length or person is out of range");
        }
        if (script.isFull()) {
            throw new IllegalStateException("there are 60 elements");
        }
        draft.copyFrom(script);
        draft.putIn(index, kind, length, person);
        if (kind == HEADING && repeatsLabel()) {
            throw new IllegalStateException("two scenes would have the same label");
        }
        keepDraft();
        return script.size;
    }

    public int remove(int index) throws IndexOutOfBoundsException, IllegalStateException {
        if (!script.has(index)) {
            throw new IndexOutOfBoundsException("no such element");
        }
        if (script.isLocked(index)) {
            throw new IllegalStateException("it is the heading of a locked scene");
        }
        draft.copyFrom(script);
        draft.takeOut(index);
        keepDraft();
        return script.size;
    }

    public int setLength(int index, int length) throws IndexOutOfBoundsException, IllegalArgumentException {
        if (!script.has(index)) {
            throw new IndexOutOfBoundsException("no such element");
        }
        if (!isLength(length)) {
            throw new IllegalArgumentException("length is out of range");
        }
        draft.copyFrom(script);
        draft.lengths.put(index, length);
        keepDraft();
        return script.linesOf(index);
    }

    public int setPage(int lines) throws IllegalArgumentException {
        if (!isPageLines(lines)) {
            throw new IllegalArgumentException("lines is out of range");
        }
        int previous = script.pageLines;
        draft.copyFrom(script);
        draft.pageLines = lines;
        keepDraft();
        return previous;
    }

    public int lockScenes() {
        draft.copyFrom(script);
        int locked = 0;
        for (int s = 0; s < scenes.count; s++) {
            int heading = scenes.headings.at(s);
            if (!script.isLocked(heading)) {
                draft.lock(heading, scenes.firsts.at(s), scenes.seconds.at(s), scenes.thirds.at(s));
                locked++;
            }
        }
        keepDraft();
        return locked;
    }

    public int omit(int scene) throws IndexOutOfBoundsException, IllegalStateException {
        if (!scenes.has(scene)) {
            throw new IndexOutOfBoundsException("no such scene");
        }
        int heading = scenes.headings.at(scene);
        if (!script.isLocked(heading) || script.isOmitted(heading)) {
            throw new IllegalStateException("it is not locked, or is omitted already");
        }
        int removed = scenes.sizes.at(scene) - 1;
        draft.copyFrom(script);
        for (int i = 0; i < removed; i++) {
            draft.takeOut(heading + 1);
        }
        draft.markOmitted(heading);
        keepDraft();
        return removed;
    }

    public int lockPages() {
        draft.copyFrom(script);
        for (int i = 0; i < draft.size; i++) {
            draft.marks.put(i, NONE);
        }
        int marks = 0;
        for (int p = 0; p < pages.count; p++) {
            int first = pages.firsts.at(p);
            if (first != NONE) {
                marks++;
                draft.marks.put(first, marks);
            }
        }
        keepDraft();
        return marks;
    }

    public int value(int what) throws IllegalArgumentException {
        if (!isBelow(what, VALUES)) {
            throw new IllegalArgumentException("what is out of range");
        }
        return valueOf(what);
    }

    public int element(int index, int what) throws IndexOutOfBoundsException, IllegalArgumentException {
        if (!script.has(index)) {
            throw new IndexOutOfBoundsException("no such element");
        }
        if (!isBelow(what, ELEMENT_FACTS)) {
            throw new IllegalArgumentException("what is out of range");
        }
        return elementFact(index, what);
    }

    // ---- scenes and pages

    public int scene(int scene, int what) throws IndexOutOfBoundsException, IllegalArgumentException {
        if (!scenes.has(scene)) {
            throw new IndexOutOfBoundsException("no such scene");
        }
        if (!isBelow(what, SCENE_FACTS)) {
            throw new IllegalArgumentException("what is out of range");
        }
        return sceneFact(scene, what);
    }

    public int page(int page, int what) throws IndexOutOfBoundsException, IllegalArgumentException {
        if (!isBelow(page, pages.count)) {
            throw new IndexOutOfBoundsException("no such page");
        }
        if (!isBelow(what, PAGE_FACTS)) {
            throw new IllegalArgumentException("what is out of range");
        }
        return pageFact(page, what);
    }

    public int find(int a, int b, int c) {
        for (int s = 0; s < scenes.count; s++) {
            if (scenes.firsts.at(s) == a && scenes.seconds.at(s) == b && scenes.thirds.at(s) == c) {
                return s;
            }
        }
        return NONE;
    }

    public int names(int person, boolean carried) throws IllegalArgumentException {
        if (person < 0 || person > MOST_PERSON) {
            throw new IllegalArgumentException("person is out of range");
        }
        int found = 0;
        for (int i = 0; i < script.size; i++) {
            // Only names have a person, so the kind need not be asked.
            if (script.persons.at(i) == person && (!carried || scenes.carries.at(i) == 1)) {
                found++;
            }
        }
        return found;
    }

    public double used() {
        int room = script.pageLines * pages.count;
        if (room <= 0) {
            return 0.0;
        }
        int sum = 0;
        for (int p = 0; p < pages.count; p++) {
            sum += pages.fills.at(p);
        }
        return (double) sum / (double) room;
    }

    // ---- what if

    public int pagesWith(int lines) throws IllegalArgumentException {
        if (!isPageLines(lines)) {
            throw new IllegalArgumentException("lines is out of range");
        }
        draft.copyFrom(script);
        draft.pageLines = lines;
        return draftPages.arrange(draft);
    }

    public int smallestPage(int pages) throws IllegalArgumentException {
        if (pages < 0 || pages > MOST_PAGES) {
            throw new IllegalArgumentException("pages is out of range");
        }
        draft.copyFrom(script);
        for (int lines = LEAST_LINES; lines <= MOST_LINES; lines++) {
            draft.pageLines = lines;
            if (draftPages.arrange(draft) <= pages) {
                return lines;
            }
        }
        return NONE;
    }

    public int pagesBy(int index, int length) throws IndexOutOfBoundsException, IllegalArgumentException {
        if (!script.has(index)) {
            throw new IndexOutOfBoundsException("no such element");
        }
        if (!isLength(length)) {
            throw new IllegalArgumentException("length is out of range");
        }
        draft.copyFrom(script);
        draft.lengths.put(index, length);
        return draftPages.arrange(draft);
    }

    public int greatestLength(int index) throws IndexOutOfBoundsException {
        if (!script.has(index)) {
            throw new IndexOutOfBoundsException("no such element");
        }
        draft.copyFrom(script);
        int present = script.lengths.at(index);
        int tried = NONE;
        // From the top, as a longer element can take fewer pages: one that may be split may begin earlier.
        for (int length = MOST_LENGTH; length > present; length--) {
            draft.lengths.put(index, length);
            int lines = draft.linesOf(index);
            // Lengths of as many lines give the same pages.
            if (lines != tried && draftPages.arrange(draft) <= pages.count) {
                return length;
            }
            tried = lines;
        }
        return present;
    }

    // ---- text

    public int append(int value) throws IllegalArgumentException, IllegalStateException {
        if (value < 0 || value > 127) {
            throw new IllegalArgumentException("value is out of range");
        }
        if (textLength >= MOST_BYTES) {
            throw new IllegalStateException("the text has 200 bytes");
        }
        text.put(textLength, value);
        textLength++;
        return textLength;
    }

    public int clearText() {
        int previous = textLength;
        textLength = 0;
        return previous;
    }

    public int parse() {
        draft.clear();
        draft.pageLines = script.pageLines;
        Reader reader = new Reader(text, textLength);
        int error = reader.readInto(draft);
        if (error != NONE) {
            return -10 - error;
        }
        keepDraft();
        return script.size;
    }

    // ---- state

    public int undo() throws IllegalStateException {
        if (history.count == 0) {
            throw new IllegalStateException("there is no saved state");
        }
        history.giveBack(script);
        scenes.survey(script);
        pages.arrange(script);
        return history.count;
    }

    public long digest() {
        long h = 31 * 3331L + textLength;
        for (int what = 0; what < VALUES; what++) {
            h = 31 * h + valueOf(what);
        }
        for (int i = 0; i < script.size; i++) {
            for (int what = 0; what < ELEMENT_FACTS; what++) {
                h = 31 * h + elementFact(i, what);
            }
        }
        for (int s = 0; s < scenes.count; s++) {
            for (int what = 0; what < SCENE_FACTS; what++) {
                h = 31 * h + sceneFact(s, what);
            }
        }
        for (int p = 0; p < pages.count; p++) {
            for (int what = 0; what < PAGE_FACTS; what++) {
                h = 31 * h + pageFact(p, what);
            }
        }
        return 31 * h + history.count;
    }

    // ---- what the methods above share

    private void keepDraft() {
        history.store(script);
        script.copyFrom(draft);
        scenes.survey(script);
        pages.arrange(script);
    }

    private boolean repeatsLabel() {
        draftScenes.survey(draft);
        return draftScenes.hasTwins();
    }

    private int valueOf(int what) {
        switch (what) {
            case 0: return script.size;
            case 1: return scenes.count;
            case 2: return pages.count;
            case 3: return script.pageLines;
            case 4: return scenes.lockedCount;
            case 5: return pages.markCount;
            case 6: return scenes.carriedCount;
            default: return pages.splitCount;
        }
    }

    private int elementFact(int index, int what) {
        switch (what) {
            case 0: return script.kinds.at(index);
            case 1: return script.lengths.at(index);
            case 2: return script.persons.at(index);
            case 3: return script.linesOf(index);
            case 4: return scenes.homes.at(index);
            case 5: return script.marks.at(index);
            case 6: return pages.places.at(index);
            case 7: return pages.tops.at(index);
            case 8: return pages.parts.at(index);
            default: return scenes.carries.at(index);
        }
    }

    private int sceneFact(int scene, int what) {
        int heading = scenes.headings.at(scene);
        switch (what) {
            case 0: return scenes.firsts.at(scene);
            case 1: return scenes.seconds.at(scene);
            case 2: return scenes.thirds.at(scene);
            case 3: return script.isLocked(heading) ? 1 : 0;
            case 4: return script.isOmitted(heading) ? 1 : 0;
            case 5: return heading;
            case 6: return scenes.sizes.at(scene);
            case 7: return scenes.sums.at(scene);
            case 8: return eighths(scenes.sums.at(scene));
            default: return pages.places.at(heading);
        }
    }

    private int pageFact(int page, int what) {
        switch (what) {
            case 0: return pages.numbers.at(page);
            case 1: return pages.extras.at(page);
            case 2: return pages.fills.at(page);
            case 3: return pages.firsts.at(page);
            default: return pages.begins.at(page);
        }
    }

    private int eighths(int lines) {
        int whole = script.pageLines;
        return whole > 0 ? (lines * 8 + whole - 1) / whole : 0;
    }

    private static boolean isBelow(int number, int bound) {
        return number >= 0 && number < bound;
    }

    private static boolean isKind(int kind) {
        return kind >= HEADING && kind <= REMARK;
    }

    private static boolean isLength(int length) {
        return length >= 1 && length <= MOST_LENGTH;
    }

    private static boolean isPersonOf(int kind, int person) {
        return kind == NAME ? person >= 0 && person <= MOST_PERSON : person == NONE;
    }

    private static boolean isPageLines(int lines) {
        return lines >= LEAST_LINES && lines <= MOST_LINES;
    }

    /** A row of numbers; outside of its cells there is NONE, so that no index can fail. */
    private static final class Row {
        private final int[] cells;

        Row(int size) {
            cells = new int[size > 0 ? size : 0];
        }

        int at(int index) {
            return index >= 0 && index < cells.length ? cells[index] : NONE;
        }

        void put(int index, int number) {
            if (index >= 0 && index < cells.length) {
                cells[index] = number;
            }
        }

        void plus(int index, int number) {
            if (index >= 0 && index < cells.length) {
                cells[index] += number;
            }
        }

        void openAt(int index, int number) {
            int first = index > 0 ? index : 0;
            for (int i = cells.length - 1; i > first; i--) {
                cells[i] = cells[i - 1];
            }
            put(index, number);
        }

        void closeAt(int index) {
            int first = index > 0 ? index : 0;
            for (int i = first; i < cells.length - 1; i++) {
                cells[i] = cells[i + 1];
            }
        }

        void copyFrom(Row other) {
            for (int i = 0; i < cells.length && i < other.cells.length; i++) {
                cells[i] = other.cells[i];
            }
        }
    }

    /** All that undo brings back: the elements, with locks and page marks, and the lines of a page. */
    private static final class Script {
        private static final int OPEN = 0;
        private static final int LOCKED = 1;
        private static final int OMITTED = 2;

        private int size = 0;
        private int pageLines = FIRST_LINES;
        private final Row kinds = new Row(MOST_ELEMENTS);
        private final Row lengths = new Row(MOST_ELEMENTS);
        private final Row persons = new Row(MOST_ELEMENTS);
        private final Row marks = new Row(MOST_ELEMENTS);
        private final Row locks = new Row(MOST_ELEMENTS);
        // The label with which a heading's scene is locked.
        private final Row firsts = new Row(MOST_ELEMENTS);
        private final Row seconds = new Row(MOST_ELEMENTS);
        private final Row thirds = new Row(MOST_ELEMENTS);

        boolean has(int index) {
            return isBelow(index, size);
        }

        boolean isFull() {
            return size >= MOST_ELEMENTS;
        }

        boolean isHeading(int index) {
            return kinds.at(index) == HEADING;
        }

        // Only headings are ever locked, so the kind need not be asked.
        boolean isLocked(int index) {
            return locks.at(index) >= LOCKED;
        }

        boolean isOmitted(int index) {
            return locks.at(index) == OMITTED;
        }

        int linesOf(int index) {
            int kind = kinds.at(index);
            if (kind == NAME || isOmitted(index)) {
                return 1;
            }
            int length = lengths.at(index);
            switch (kind) {
                case SPEECH: return (length + 34) / 35;
                case REMARK: return (length + 24) / 25;
                default: return (length + 59) / 60;
            }
        }

        int blanksAhead(int index) {
            switch (kinds.at(index)) {
                case HEADING: return 2;
                case ACTION:
                case NAME: return 1;
                default: return 0;
            }
        }

        void clear() {
            size = 0;
        }

        void putIn(int index, int kind, int length, int person) {
            if (isFull()) {
                return;
            }
            kinds.openAt(index, kind);
            lengths.openAt(index, length);
            persons.openAt(index, person);
            marks.openAt(index, NONE);
            locks.openAt(index, OPEN);
            firsts.openAt(index, 0);
            seconds.openAt(index, 0);
            thirds.openAt(index, 0);
            size++;
        }

        void takeOut(int index) {
            if (!has(index)) {
                return;
            }
            int mark = marks.at(index);
            kinds.closeAt(index);
            lengths.closeAt(index);
            persons.closeAt(index);
            marks.closeAt(index);
            locks.closeAt(index);
            firsts.closeAt(index);
            seconds.closeAt(index);
            thirds.closeAt(index);
            size--;
            if (has(index) && marks.at(index) == NONE) {
                marks.put(index, mark);
            }
        }

        void lock(int heading, int first, int second, int third) {
            locks.put(heading, LOCKED);
            firsts.put(heading, first);
            seconds.put(heading, second);
            thirds.put(heading, third);
        }

        void markOmitted(int heading) {
            locks.put(heading, OMITTED);
        }

        void copyFrom(Script other) {
            size = other.size;
            pageLines = other.pageLines;
            kinds.copyFrom(other.kinds);
            lengths.copyFrom(other.lengths);
            persons.copyFrom(other.persons);
            marks.copyFrom(other.marks);
            locks.copyFrom(other.locks);
            firsts.copyFrom(other.firsts);
            seconds.copyFrom(other.seconds);
            thirds.copyFrom(other.thirds);
        }
    }

    /** What follows from a script about its scenes, their labels, and the names carried on in them. */
    private static final class Scenes {
        private int count = 0;
        private int lockedCount = 0;
        private int carriedCount = 0;
        private final Row headings = new Row(MOST_ELEMENTS);
        private final Row sizes = new Row(MOST_ELEMENTS);
        private final Row sums = new Row(MOST_ELEMENTS);
        private final Row firsts = new Row(MOST_ELEMENTS);
        private final Row seconds = new Row(MOST_ELEMENTS);
        private final Row thirds = new Row(MOST_ELEMENTS);
        // The first number of the next locked scene behind, NONE without one.
        private final Row limits = new Row(MOST_ELEMENTS);
        // For each element: its scene, and 1 if it is a name that is carried on.
        private final Row homes = new Row(MOST_ELEMENTS);
        private final Row carries = new Row(MOST_ELEMENTS);

        boolean has(int scene) {
            return isBelow(scene, count);
        }

        void survey(Script script) {
            gather(script);
            findCarriedNames(script);
            findLimits(script);
            label(script);
        }

        private void gather(Script script) {
            count = 0;
            lockedCount = 0;
            for (int i = 0; i < script.size; i++) {
                if (script.isHeading(i)) {
                    headings.put(count, i);
                    sizes.put(count, 0);
                    sums.put(count, 0);
                    count++;
                }
                if (script.isLocked(i)) {
                    lockedCount++;
                }
                int home = count > 0 ? count - 1 : NONE;
                homes.put(i, home);
                sizes.plus(home, 1);
                sums.plus(home, script.linesOf(i));
            }
        }

        private void findCarriedNames(Script script) {
            carriedCount = 0;
            int latest = NONE;
            for (int i = 0; i < script.size; i++) {
                int person = script.persons.at(i);
                boolean carried = person != NONE && person == latest && homes.at(i) != NONE;
                carries.put(i, carried ? 1 : 0);
                if (carried) {
                    carriedCount++;
                }
                if (script.isHeading(i)) {
                    latest = NONE;
                } else if (person != NONE) {
                    latest = person;
                }
            }
        }

        private void findLimits(Script script) {
            int limit = NONE;
            for (int s = count - 1; s >= 0; s--) {
                limits.put(s, limit);
                int heading = headings.at(s);
                if (script.isLocked(heading)) {
                    limit = script.firsts.at(heading);
                }
            }
        }

        private void label(Script script) {
            int a = 0;
            int b = 0;
            int c = 0;
            int k = 0;
            for (int s = 0; s < count; s++) {
                int heading = headings.at(s);
                if (script.isLocked(heading)) {
                    a = script.firsts.at(heading);
                    b = script.seconds.at(heading);
                    c = script.thirds.at(heading);
                    k = 0;
                    putLabel(s, a, b, c);
                } else {
                    k++;
                    labelOpen(s, a, b, c, k);
                }
            }
        }

        private void labelOpen(int scene, int a, int b, int c, int k) {
            if (lockedCount == 0) {
                putLabel(scene, k, 0, 0);
            } else if (limits.at(scene) == a) {
                putLabel(scene, a, b, c + k);
            } else {
                putLabel(scene, a, b + k, 0);
            }
        }

        private void putLabel(int scene, int first, int second, int third) {
            firsts.put(scene, first);
            seconds.put(scene, second);
            thirds.put(scene, third);
        }

        boolean hasTwins() {
            for (int s = 0; s < count; s++) {
                for (int t = 0; t < s; t++) {
                    if (areTwins(s, t)) {
                        return true;
                    }
                }
            }
            return false;
        }

        private boolean areTwins(int s, int t) {
            return firsts.at(s) == firsts.at(t) && seconds.at(s) == seconds.at(t) && thirds.at(s) == thirds.at(t);
        }
    }

    /** What follows from a script about its pages. */
    private static final class Pages {
        private int count = 0;
        private int markCount = 0;
        private int splitCount = 0;
        private int limit = 0;
        private int filled = 0;
        // For each element: its need, its page, its first line there, and its lines there.
        private final Row needs = new Row(MOST_ELEMENTS);
        private final Row places = new Row(MOST_ELEMENTS);
        private final Row tops = new Row(MOST_ELEMENTS);
        private final Row parts = new Row(MOST_ELEMENTS);
        // For each page: its label, its used lines, and the elements that begin on it.
        private final Row numbers = new Row(MOST_PAGES);
        private final Row extras = new Row(MOST_PAGES);
        private final Row fills = new Row(MOST_PAGES);
        private final Row firsts = new Row(MOST_PAGES);
        private final Row begins = new Row(MOST_PAGES);

        /** Sets the script on pages, and returns how many there are. */
        int arrange(Script script) {
            count = 0;
            splitCount = 0;
            limit = script.pageLines;
            findNeeds(script);
            for (int i = 0; i < script.size; i++) {
                if (count == 0 || mustTurn(script, i)) {
                    turnPage();
                }
                setElement(script, i);
            }
            countMarks(script);
            label(script);
            return count;
        }

        // From the last element on, as the need of one may contain that of the next.
        private void findNeeds(Script script) {
            for (int i = script.size - 1; i >= 0; i--) {
                int need = leastPart(script.kinds.at(i), script.linesOf(i));
                if (holdsNext(script, i)) {
                    need += script.blanksAhead(i + 1) + needs.at(i + 1);
                }
                needs.put(i, need);
            }
        }

        private static int leastPart(int kind, int lines) {
            if (lines >= 4 && kind == ACTION) {
                return 2;
            }
            return lines >= 4 && kind == SPEECH ? 3 : lines;
        }

        private static boolean holdsNext(Script script, int index) {
            int next = index + 1;
            if (!script.has(next) || script.marks.at(next) != NONE) {
                return false;
            }
            int nextKind = script.kinds.at(next);
            switch (script.kinds.at(index)) {
                case HEADING: return nextKind != HEADING;
                case NAME:
                case REMARK: return nextKind == REMARK || nextKind == SPEECH;
                default: return false;
            }
        }

        private boolean mustTurn(Script script, int index) {
            if (filled == 0) {
                return false;
            }
            return script.marks.at(index) != NONE
                    || script.blanksAhead(index) + needs.at(index) > limit - filled;
        }

        private void turnPage() {
            filled = 0;
            fills.put(count, 0);
            firsts.put(count, NONE);
            begins.put(count, 0);
            count++;
        }

        private void fill(int lines) {
            filled += lines;
            fills.put(count - 1, filled);
        }

        private void setElement(Script script, int index) {
            if (filled > 0) {
                fill(script.blanksAhead(index));
            }
            int kind = script.kinds.at(index);
            int lines = script.linesOf(index);
            int part = firstPart(kind, lines, limit - filled);
            noteBegin(index, part);
            fill(part);
            if (part < lines) {
                carryOver(kind, lines - part);
            }
        }

        private static int firstPart(int kind, int lines, int free) {
            if (lines <= free) {
                return lines;
            }
            return Math.min(kind == SPEECH ? free - 1 : free, lines - 2);
        }

        private void noteBegin(int index, int part) {
            int page = count - 1;
            places.put(index, page);
            tops.put(index, filled);
            parts.put(index, part);
            begins.plus(page, 1);
            if (firsts.at(page) == NONE) {
                firsts.put(page, index);
            }
        }

        private void carryOver(int kind, int rest) {
            // A speech takes a line on both pages: the sign that it goes on, and its name.
            int extra = kind == SPEECH ? 1 : 0;
            fill(extra);
            turnPage();
            fill(extra + rest);
            splitCount++;
        }

        private void countMarks(Script script) {
            markCount = 0;
            for (int i = 0; i < script.size; i++) {
                if (script.marks.at(i) != NONE) {
                    markCount++;
                }
            }
        }

        private void label(Script script) {
            int number = 0;
            int extra = NONE;
            for (int p = 0; p < count; p++) {
                // An element with a mark always begins its page, so the first one tells.
                int mark = script.marks.at(firsts.at(p));
                if (markCount == 0) {
                    number = p + 1;
                    extra = 0;
                } else if (mark != NONE) {
                    number = mark;
                    extra = 0;
                } else {
                    extra++;
                }
                numbers.put(p, number);
                extras.put(p, extra);
            }
        }
    }

    /** Reads the items of a script text. */
    private static final class Reader {
        private static final int NAME_LENGTH = 10;
        private static final int MOST_DIGITS = 3;

        private final Row text;
        private final int end;
        private int place = 0;
        private int error = NONE;

        Reader(Row text, int end) {
            this.text = text;
            this.end = end;
        }

        /** Returns NONE, or the syntax error position. */
        int readInto(Script script) {
            for (int i = 0; i <= MOST_ELEMENTS && place < end && error == NONE; i++) {
                readItem(script);
            }
            return error;
        }

        private void readItem(Script script) {
            int kind = kindOf(next());
            if (kind == NONE || script.isFull()) {
                fail(place);
                return;
            }
            place++;
            int person = kind == NAME ? readPerson() : NONE;
            int length = kind != NAME || readsComma() ? readLength() : NAME_LENGTH;
            if (next() != ';') {
                fail(place);
            }
            if (error == NONE) {
                place++;
                script.putIn(script.size, kind, length, person);
            }
        }

        private static int kindOf(int letter) {
            switch (letter) {
                case 'h': return HEADING;
                case 'a': return ACTION;
                case 'n': return NAME;
                case 's': return SPEECH;
                case 'r': return REMARK;
                default: return NONE;
            }
        }

        private int readPerson() {
            if (!isDigit(next())) {
                fail(place);
                return NONE;
            }
            int person = next() - '0';
            place++;
            return person;
        }

        private boolean readsComma() {
            if (error != NONE || next() != ',') {
                return false;
            }
            place++;
            return true;
        }

        private int readLength() {
            int start = place;
            int length = 0;
            for (int i = 0; i < MOST_DIGITS && isDigit(next()); i++) {
                length = length * 10 + next() - '0';
                place++;
            }
            // A fourth digit goes ahead of a wrong length, which only a byte that is no digit ends.
            if (place == start || isDigit(next())) {
                fail(place);
            } else if (!isLength(length)) {
                fail(start);
            }
            return length;
        }

        // The row holds bytes of earlier texts behind the end.
        private int next() {
            return place < end ? text.at(place) : NONE;
        }

        private static boolean isDigit(int letter) {
            return letter >= '0' && letter <= '9';
        }

        // Only the first error counts.
        private void fail(int position) {
            if (error == NONE) {
                error = position;
            }
        }
    }

    /** The saved states, the oldest one first; each place keeps a script of its own to copy into. */
    private static final class History {
        private final Script[] states = new Script[MOST_STATES];
        private int count = 0;

        History() {
            for (int i = 0; i < states.length; i++) {
                states[i] = new Script();
            }
        }

        void store(Script script) {
            if (count >= states.length) {
                dropOldest();
            }
            Script state = stateAt(count);
            if (state != null) {
                state.copyFrom(script);
                count++;
            }
        }

        private void dropOldest() {
            Script oldest = stateAt(0);
            for (int i = 1; i < states.length; i++) {
                states[i - 1] = states[i];
            }
            if (states.length > 0) {
                states[states.length - 1] = oldest;
            }
            count--;
        }

        void giveBack(Script script) {
            Script state = stateAt(count - 1);
            if (state != null) {
                script.copyFrom(state);
                count--;
            }
        }

        private Script stateAt(int index) {
            return index >= 0 && index < states.length ? states[index] : null;
        }
    }
}
