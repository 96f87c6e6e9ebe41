import java.util.ArrayList;
import java.util.List;

/**
 * A second, slow setter, written from the document alone and in another way than the class: it keeps
 * nothing but the elements, and works out each answer anew, with needs that run on by recursion.
 */
final class Model {
    static final int NONE = -1;

    static final class Item {
        int kind;
        int length;
        int person;
        int mark = NONE;
        boolean omitted;
        int[] label;

        Item(int kind, int length, int person) {
            this.kind = kind;
            this.length = length;
            this.person = person;
        }

        Item copy() {
            Item c = new Item(kind, length, person);
            c.mark = mark;
            c.omitted = omitted;
            c.label = label == null ? null : label.clone();
            return c;
        }

        int lines() {
            if (kind == 2 || omitted) {
                return 1;
            }
            int w = kind == 3 ? 35 : kind == 4 ? 25 : 60;
            return (length + w - 1) / w;
        }

        int blanks() {
            return kind == 0 ? 2 : kind <= 2 ? 1 : 0;
        }

        int least() {
            if (kind == 1 && lines() >= 4) {
                return 2;
            }
            if (kind == 3 && lines() >= 4) {
                return 3;
            }
            return lines();
        }
    }

    static final class State {
        List<Item> items = new ArrayList<>();
        int height = 50;

        State copy() {
            State c = new State();
            c.height = height;
            for (Item i : items) {
                c.items.add(i.copy());
            }
            return c;
        }
    }

    /** A piece of an element on a page: line is NONE for a rest. */
    static final class Leaf {
        int used;
        List<Integer> begun = new ArrayList<>();
    }

    static final class Book {
        List<Leaf> leaves = new ArrayList<>();
        int[] page = new int[60];
        int[] line = new int[60];
        int[] own = new int[60];
        int splits;
    }

    private State now = new State();
    private final List<State> saved = new ArrayList<>();
    private final StringBuilder text = new StringBuilder();

    // ---- layout

    private static int need(State s, int i) {
        Item e = s.items.get(i);
        if (e.kind == 1 || e.kind == 3) {
            return e.least();
        }
        if (i + 1 == s.items.size()) {
            return e.lines();
        }
        Item n = s.items.get(i + 1);
        if (n.mark != NONE || n.kind == 0) {
            return e.lines();
        }
        if (e.kind != 0 && n.kind != 3 && n.kind != 4) {
            return e.lines();
        }
        return e.lines() + n.blanks() + need(s, i + 1);
    }

    private static Book book(State s) {
        Book b = new Book();
        Leaf leaf = null;
        for (int i = 0; i < s.items.size(); i++) {
            Item e = s.items.get(i);
            if (leaf == null) {
                leaf = new Leaf();
                b.leaves.add(leaf);
            }
            if (leaf.used != 0 && e.mark != NONE) {
                leaf = new Leaf();
                b.leaves.add(leaf);
            }
            if (leaf.used != 0 && e.blanks() + need(s, i) > s.height - leaf.used) {
                leaf = new Leaf();
                b.leaves.add(leaf);
            }
            int blanks = leaf.used == 0 ? 0 : e.blanks();
            int room = s.height - leaf.used - blanks;
            b.page[i] = b.leaves.size() - 1;
            b.line[i] = leaf.used + blanks;
            leaf.begun.add(i);
            if (e.lines() <= room) {
                b.own[i] = e.lines();
                leaf.used += blanks + e.lines();
                continue;
            }
            int sign = e.kind == 3 ? 1 : 0;
            int set = room - sign;
            if (set > e.lines() - 2) {
                set = e.lines() - 2;
            }
            b.own[i] = set;
            b.splits++;
            leaf.used += blanks + set + sign;
            leaf = new Leaf();
            b.leaves.add(leaf);
            leaf.used = sign + e.lines() - set;
        }
        return b;
    }

    private static int count(State s) {
        return book(s).leaves.size();
    }

    // ---- scenes

    private static List<Integer> headings(State s) {
        List<Integer> h = new ArrayList<>();
        for (int i = 0; i < s.items.size(); i++) {
            if (s.items.get(i).kind == 0) {
                h.add(i);
            }
        }
        return h;
    }

    private static int[] label(State s, int scene) {
        List<Integer> h = headings(s);
        if (s.items.get(h.get(scene)).label != null) {
            return s.items.get(h.get(scene)).label;
        }
        int x = scene - 1;
        while (x >= 0 && s.items.get(h.get(x)).label == null) {
            x--;
        }
        int y = scene + 1;
        while (y < h.size() && s.items.get(h.get(y)).label == null) {
            y++;
        }
        int k = scene - x;
        if (x < 0 && y == h.size()) {
            return new int[] {k, 0, 0};
        }
        int[] from = x < 0 ? new int[] {0, 0, 0} : s.items.get(h.get(x)).label;
        if (y < h.size() && s.items.get(h.get(y)).label[0] == from[0]) {
            return new int[] {from[0], from[1], from[2] + k};
        }
        return new int[] {from[0], from[1] + k, 0};
    }

    private static int sceneOf(State s, int index) {
        int scene = NONE;
        for (int i = 0; i <= index; i++) {
            if (s.items.get(i).kind == 0) {
                scene++;
            }
        }
        return scene;
    }

    private static boolean carried(State s, int index) {
        if (s.items.get(index).kind != 2 || sceneOf(s, index) == NONE) {
            return false;
        }
        for (int i = index - 1; s.items.get(i).kind != 0; i--) {
            if (s.items.get(i).kind == 2) {
                return s.items.get(i).person == s.items.get(index).person;
            }
        }
        return false;
    }

    private static int endOf(State s, int heading) {
        int end = heading + 1;
        while (end < s.items.size() && s.items.get(end).kind != 0) {
            end++;
        }
        return end;
    }

    // ---- changes

    private void save() {
        saved.add(now.copy());
        if (saved.size() > 4) {
            saved.remove(0);
        }
    }

    private void needElement(int index) {
        if (index < 0 || index >= now.items.size()) {
            throw new IndexOutOfBoundsException();
        }
    }

    private static void need(boolean good) {
        if (!good) {
            throw new IllegalArgumentException();
        }
    }

    private static void drop(State s, int index) {
        int mark = s.items.remove(index).mark;
        if (mark != NONE && index < s.items.size() && s.items.get(index).mark == NONE) {
            s.items.get(index).mark = mark;
        }
    }

    int insert(int index, int kind, int length, int person) {
        if (index < 0 || index > now.items.size()) {
            throw new IndexOutOfBoundsException();
        }
        need(kind >= 0 && kind <= 4 && length >= 1 && length <= 400);
        need(kind == 2 ? person >= 0 && person <= 9 : person == NONE);
        State then = now.copy();
        then.items.add(index, new Item(kind, length, person));
        boolean twins = false;
        int scenes = headings(then).size();
        for (int a = 0; kind == 0 && a < scenes; a++) {
            for (int b = a + 1; b < scenes; b++) {
                twins |= java.util.Arrays.equals(label(then, a), label(then, b));
            }
        }
        if (now.items.size() == 60 || twins) {
            throw new IllegalStateException();
        }
        save();
        now = then;
        return now.items.size();
    }

    int remove(int index) {
        needElement(index);
        if (now.items.get(index).label != null) {
            throw new IllegalStateException();
        }
        save();
        drop(now, index);
        return now.items.size();
    }

    int setLength(int index, int length) {
        needElement(index);
        need(length >= 1 && length <= 400);
        save();
        now.items.get(index).length = length;
        return now.items.get(index).lines();
    }

    int setPage(int lines) {
        need(lines >= 20 && lines <= 60);
        save();
        int old = now.height;
        now.height = lines;
        return old;
    }

    int lockScenes() {
        save();
        State before = now.copy();
        List<Integer> h = headings(now);
        int locked = 0;
        for (int s = 0; s < h.size(); s++) {
            if (before.items.get(h.get(s)).label == null) {
                now.items.get(h.get(s)).label = label(before, s);
                locked++;
            }
        }
        return locked;
    }

    int omit(int scene) {
        List<Integer> h = headings(now);
        if (scene < 0 || scene >= h.size()) {
            throw new IndexOutOfBoundsException();
        }
        int heading = h.get(scene);
        Item e = now.items.get(heading);
        if (e.label == null || e.omitted) {
            throw new IllegalStateException();
        }
        save();
        int removed = 0;
        while (endOf(now, heading) > heading + 1) {
            drop(now, heading + 1);
            removed++;
        }
        now.items.get(heading).omitted = true;
        return removed;
    }

    int lockPages() {
        save();
        Book b = book(now);
        for (Item i : now.items) {
            i.mark = NONE;
        }
        int mark = 0;
        for (Leaf leaf : b.leaves) {
            if (!leaf.begun.isEmpty()) {
                mark++;
                now.items.get(leaf.begun.get(0)).mark = mark;
            }
        }
        return mark;
    }

    // ---- answers

    private int marks() {
        int marks = 0;
        for (Item i : now.items) {
            marks += i.mark != NONE ? 1 : 0;
        }
        return marks;
    }

    int value(int what) {
        need(what >= 0 && what <= 7);
        int locked = 0;
        int carried = 0;
        for (int i = 0; i < now.items.size(); i++) {
            locked += now.items.get(i).label != null ? 1 : 0;
            carried += carried(now, i) ? 1 : 0;
        }
        int[] all = {now.items.size(), headings(now).size(), count(now), now.height, locked, marks(), carried,
            book(now).splits};
        return all[what];
    }

    int element(int index, int what) {
        needElement(index);
        need(what >= 0 && what <= 9);
        Item e = now.items.get(index);
        Book b = book(now);
        int[] all = {e.kind, e.length, e.person, e.lines(), sceneOf(now, index), e.mark, b.page[index],
            b.line[index], b.own[index], carried(now, index) ? 1 : 0};
        return all[what];
    }

    int scene(int scene, int what) {
        List<Integer> h = headings(now);
        if (scene < 0 || scene >= h.size()) {
            throw new IndexOutOfBoundsException();
        }
        need(what >= 0 && what <= 9);
        int heading = h.get(scene);
        Item e = now.items.get(heading);
        int[] l = label(now, scene);
        int end = endOf(now, heading);
        int sum = 0;
        for (int i = heading; i < end; i++) {
            sum += now.items.get(i).lines();
        }
        int[] all = {l[0], l[1], l[2], e.label != null ? 1 : 0, e.omitted ? 1 : 0, heading, end - heading, sum,
            (sum * 8 + now.height - 1) / now.height, book(now).page[heading]};
        return all[what];
    }

    private int[] pageLabel(Book b, int page) {
        if (marks() == 0) {
            return new int[] {page + 1, 0};
        }
        List<Integer> begun = b.leaves.get(page).begun;
        for (int i : begun) {
            if (b.line[i] == 0 && now.items.get(i).mark != NONE) {
                return new int[] {now.items.get(i).mark, 0};
            }
        }
        if (page == 0) {
            return new int[] {0, 0};
        }
        int[] before = pageLabel(b, page - 1);
        return new int[] {before[0], before[1] + 1};
    }

    int page(int page, int what) {
        Book b = book(now);
        if (page < 0 || page >= b.leaves.size()) {
            throw new IndexOutOfBoundsException();
        }
        need(what >= 0 && what <= 4);
        Leaf leaf = b.leaves.get(page);
        int[] l = pageLabel(b, page);
        int[] all = {l[0], l[1], leaf.used, leaf.begun.isEmpty() ? NONE : leaf.begun.get(0), leaf.begun.size()};
        return all[what];
    }

    int find(int a, int b, int c) {
        for (int s = 0; s < headings(now).size(); s++) {
            if (java.util.Arrays.equals(label(now, s), new int[] {a, b, c})) {
                return s;
            }
        }
        return NONE;
    }

    int names(int person, boolean carried) {
        need(person >= 0 && person <= 9);
        int found = 0;
        for (int i = 0; i < now.items.size(); i++) {
            Item e = now.items.get(i);
            found += e.kind == 2 && e.person == person && (!carried || carried(now, i)) ? 1 : 0;
        }
        return found;
    }

    double used() {
        Book b = book(now);
        int sum = 0;
        for (Leaf leaf : b.leaves) {
            sum += leaf.used;
        }
        return b.leaves.isEmpty() ? 0.0 : (double) sum / (double) (now.height * b.leaves.size());
    }

    int pagesWith(int lines) {
        need(lines >= 20 && lines <= 60);
        State s = now.copy();
        s.height = lines;
        return count(s);
    }

    int smallestPage(int pages) {
        need(pages >= 0 && pages <= 60);
        for (int lines = 20; lines <= 60; lines++) {
            if (pagesWith(lines) <= pages) {
                return lines;
            }
        }
        return NONE;
    }

    int pagesBy(int index, int length) {
        needElement(index);
        need(length >= 1 && length <= 400);
        State s = now.copy();
        s.items.get(index).length = length;
        return count(s);
    }

    int greatestLength(int index) {
        needElement(index);
        int most = count(now);
        int greatest = NONE;
        for (int length = 1; length <= 400; length++) {
            if (pagesBy(index, length) <= most) {
                greatest = length;
            }
        }
        return greatest;
    }

    // ---- text

    int append(int value) {
        need(value >= 0 && value <= 127);
        if (text.length() == 200) {
            throw new IllegalStateException();
        }
        text.append((char) value);
        return text.length();
    }

    int clearText() {
        int length = text.length();
        text.setLength(0);
        return length;
    }

    /** A machine that eats one byte after the other; its mode tells what may stand next. */
    int parse() {
        State s = new State();
        s.height = now.height;
        String mode = "letter";
        int kind = NONE;
        int person = NONE;
        String digits = "";
        for (int i = 0; i <= text.length(); i++) {
            char c = i < text.length() ? text.charAt(i) : '$';
            boolean end = i == text.length();
            boolean digit = !end && c >= '0' && c <= '9';
            if (mode.equals("letter")) {
                if (end) {
                    break;
                }
                kind = "hansr".indexOf(c);
                if (kind == NONE || s.items.size() == 60) {
                    return -10 - i;
                }
                person = NONE;
                digits = "";
                mode = kind == 2 ? "person" : "length";
            } else if (mode.equals("person")) {
                if (!digit) {
                    return -10 - i;
                }
                person = c - '0';
                mode = "comma";
            } else if (mode.equals("comma")) {
                if (!end && c == ';') {
                    s.items.add(new Item(kind, 10, person));
                    mode = "letter";
                } else if (!end && c == ',') {
                    mode = "length";
                } else {
                    return -10 - i;
                }
            } else if (digit && digits.length() < 3) {
                digits += c;
            } else {
                if (digit || digits.isEmpty()) {
                    return -10 - i;
                }
                int length = Integer.parseInt(digits);
                if (length < 1 || length > 400) {
                    return -10 - (i - digits.length());
                }
                if (end || c != ';') {
                    return -10 - i;
                }
                s.items.add(new Item(kind, length, person));
                mode = "letter";
            }
        }
        save();
        now = s;
        return now.items.size();
    }

    int undo() {
        if (saved.isEmpty()) {
            throw new IllegalStateException();
        }
        now = saved.remove(saved.size() - 1);
        return saved.size();
    }

    long digest() {
        List<Integer> all = new ArrayList<>();
        all.add(text.length());
        for (int what = 0; what < 8; what++) {
            all.add(value(what));
        }
        for (int i = 0; i < now.items.size(); i++) {
            for (int what = 0; what < 10; what++) {
                all.add(element(i, what));
            }
        }
        for (int s = 0; s < headings(now).size(); s++) {
            for (int what = 0; what < 10; what++) {
                all.add(scene(s, what));
            }
        }
        int pages = count(now);
        for (int p = 0; p < pages; p++) {
            for (int what = 0; what < 5; what++) {
                all.add(page(p, what));
            }
        }
        all.add(saved.size());
        long h = 3331;
        for (int v : all) {
            h = 31 * h + v;
        }
        return h;
    }
}
