import java.util.ArrayList;
import java.util.Arrays;
import java.util.List;
import java.util.TreeSet;

/**
 * The document once more, in the slowest and plainest way: every way to part books is looked at, texts are worked
 * out from their words each time. ModelTest holds the class against it.
 */
final class SlowBoards {
    static final int BAD = Due.BAD, NO = Due.NO, FULL = Due.FULL, NONE = Due.NONE, NOTHING = Due.NOTHING,
            KIND = Due.KIND, INDEX = Due.INDEX, SIZE = Due.SIZE;

    record Book(int height, int thick, int part, boolean tied) {
        Book tied(boolean is) {
            return new Book(height, thick, part, is);
        }
    }

    record Board(int kind, int first, int last, int h) {
    }

    record Text(int key, List<String> words) {
    }

    record Way(int prices, List<Integer> lengths) {
    }

    static final class State {
        List<Book> books = new ArrayList<>();
        List<Board> boards = new ArrayList<>();
        List<Text> texts = new ArrayList<>();
        List<Integer> allowed = new ArrayList<>();
        int width = 100, plank = 2, caseHeight = 336, z = 1;

        State twin() {
            State s = new State();
            s.books = new ArrayList<>(books);
            s.boards = new ArrayList<>(boards);
            s.texts = new ArrayList<>(texts);
            s.allowed = new ArrayList<>(allowed);
            s.width = width;
            s.plank = plank;
            s.caseHeight = caseHeight;
            s.z = z;
            return s;
        }
    }

    State now = new State();
    State image = null;
    List<Integer> waiting = new ArrayList<>();
    List<Integer> tape = new ArrayList<>();
    /** Shorts are short[], floats float[] with NaN for NO NUMBER. */
    Object[] sheets = new Object[4];
    Object[] slots = new Object[5];

    static boolean in(int v, int a, int b) {
        return v >= a && v <= b;
    }

    static int hold(int v, int a, int b) {
        return v < a ? a : v > b ? b : v;
    }

    static boolean sizeOk(int size) {
        if (size < 0) {
            return false;
        }
        return in(size / 100, 1, 99) && in(size - size / 100 * 100, 1, 99);
    }

    // ---- books
    int book(int size, int part) {
        if (!sizeOk(size) || !in(part, 0, 7)) {
            return BAD;
        }
        if (now.books.size() == 24) {
            return FULL;
        }
        now.books.add(new Book(size / 100, size % 100, part, false));
        return now.books.size() - 1;
    }

    int bookTold(int book, int what) {
        if (!in(book, 0, now.books.size() - 1) || !in(what, 0, 4)) {
            return BAD;
        }
        Book b = now.books.get(book);
        if (what == 4) {
            Way w = setting(now);
            return w == null ? NONE : lineOf(w, book);
        }
        return new int[] {b.height, b.thick, b.part, b.tied ? 1 : 0}[what];
    }

    int tie(int book, boolean is) {
        if (!in(book, 0, now.books.size() - 1)) {
            return BAD;
        }
        boolean was = now.books.get(book).tied;
        now.books.set(book, now.books.get(book).tied(is));
        return was == is ? 0 : 1;
    }

    private int draw(int by) {
        now.z = now.z * 1103515245 + 12345;
        return (now.z >>> 8) % by;
    }

    int deal(int n) {
        if (!in(n, 1, 24)) {
            return BAD;
        }
        int came = 0;
        while (came < n && now.books.size() < 24) {
            int h = 20 + draw(30);
            int t = 1 + draw(20);
            now.books.add(new Book(h, t, draw(8), false));
            came++;
        }
        return came;
    }

    int seed(int v) {
        int was = now.z;
        now.z = v;
        return was;
    }

    int set(int what, int v) {
        int was = what == 0 ? now.width : what == 1 ? now.plank : now.caseHeight;
        if (!in(what, 0, 2) || !in(v, what == 1 ? 0 : 1, what == 1 ? 9 : 999)) {
            return BAD;
        }
        if (what == 0) {
            now.width = v;
        } else if (what == 1) {
            now.plank = v;
        } else {
            now.caseHeight = v;
        }
        return was;
    }

    // ---- boards
    int board(int kind, int books, int h) {
        if (!in(kind, 0, 5) || books < 0 || !in(h, 0, 99)) {
            return BAD;
        }
        int a = books / 100;
        int b = books % 100;
        if (a >= now.books.size() || b >= now.books.size() || b < a) {
            return BAD;
        }
        if (now.boards.size() == 12) {
            return FULL;
        }
        now.boards.add(new Board(kind, a, b, h));
        return now.boards.size() - 1;
    }

    static int above(int kind) {
        return kind == 3 ? 1 : kind == 4 ? 2 : kind == 0 ? -1 : 0;
    }

    static boolean under(int kind, int of) {
        return kind == of || kind > 0 && under(above(kind), of);
    }

    int wants(Board b, int kind) {
        List<Book> of = now.books.subList(b.first, b.last + 1);
        return switch (kind) {
            case 0 -> of.stream().mapToInt(Book::height).max().orElseThrow();
            case 1 -> wants(b, 0) + 1;
            case 2 -> wants(b, 0) + 2;
            case 4 -> of.stream().mapToInt(Book::thick).sum();
            case 5 -> b.h;
            default -> wants(b, above(kind));
        };
    }

    int takes(Board b, int kind) {
        List<Book> of = now.books.subList(b.first, b.last + 1);
        return switch (kind) {
            case 0 -> of.stream().mapToInt(Book::thick).sum();
            case 3 -> {
                int run = takes(b, 1);
                yield run / 2 + run % 2;
            }
            case 4 -> of.stream().mapToInt(Book::height).max().orElseThrow();
            default -> takes(b, above(kind));
        };
    }

    static int worth(Board b, int kind) {
        return switch (kind) {
            case 0 -> b.last - b.first + 1;
            case 1 -> worth(b, 0) + b.h;
            case 3 -> worth(b, 1) + 3;
            case 4 -> 2 * worth(b, 2);
            case 5 -> b.h - 1;
            default -> worth(b, above(kind));
        };
    }

    boolean good(Board b) {
        if (takes(b, b.kind) > now.width) {
            return false;
        }
        if (b.last + 1 < now.books.size() && now.books.get(b.last).tied) {
            return false;
        }
        return b.first == 0 || !now.books.get(b.first - 1).tied;
    }

    int told(int board, int what) {
        if (!in(board, 0, now.boards.size() - 1) || !in(what, 0, 7)) {
            return BAD;
        }
        Board b = now.boards.get(board);
        return new int[] {b.kind, b.first, b.last, b.h, wants(b, b.kind), takes(b, b.kind), worth(b, b.kind),
            good(b) ? 1 : 0}[what];
    }

    int as(int board, int kind) {
        if (!in(board, 0, now.boards.size() - 1) || !in(kind, 0, 5)) {
            return BAD;
        }
        Board b = now.boards.get(board);
        return under(b.kind, kind) ? b.h : KIND;
    }

    int turns(int board, int kind) {
        if (!in(board, 0, now.boards.size() - 1) || !in(kind, 0, 5)) {
            return BAD;
        }
        Board b = now.boards.get(board);
        now.boards.set(board, new Board(kind, b.first, b.last, b.h));
        return b.kind;
    }

    int drop(int board) {
        if (!in(board, 0, now.boards.size() - 1)) {
            return BAD;
        }
        now.boards.remove(board);
        return now.boards.size();
    }

    int judge(int what) {
        if (what == 0) {
            for (int i = 0; i < now.boards.size(); i++) {
                if (!good(now.boards.get(i))) {
                    return i;
                }
            }
            return NONE;
        }
        if (what == 1) {
            for (int i = 0; i < now.books.size(); i++) {
                int book = i;
                if (now.boards.stream().filter(b -> in(book, b.first, b.last)).count() != 1) {
                    return i;
                }
            }
            return NONE;
        }
        return what == 2 ? now.boards.stream().mapToInt(b -> wants(b, b.kind) + now.plank).sum() : BAD;
    }

    // ---- the setting

    /** The set of a line of these books, 0: it can't be. */
    static int setOf(List<Book> line, List<Integer> allowed) {
        int tall = line.stream().mapToInt(Book::height).max().orElseThrow();
        if (allowed.isEmpty()) {
            return tall;
        }
        return allowed.stream().mapToInt(a -> a).filter(a -> a >= tall).min().orElse(0);
    }

    static boolean fits(List<Book> books, int from, int to, int width) {
        int thick = 0;
        for (int i = from; i < to; i++) {
            thick += books.get(i).thick;
        }
        return thick <= width && (to == books.size() || !books.get(to - 1).tied);
    }

    static int priceOf(State s, int set, int n) {
        Text cost = counts(s, 0);
        return cost == null ? set + s.plank : hold(work(cost, set, n, s.plank), 0, 9999);
    }

    /** All ways to part so few books; for more of them, the best way from each book on. */
    static Way best(State s, List<Book> books, List<Integer> allowed, int width) {
        if (books.size() > 9) {
            return bestFromBehind(s, books, allowed, width);
        }
        Way best = null;
        int bits = Math.max(0, books.size() - 1);
        for (int cut = 0; cut < 1 << bits; cut++) {
            Way way = wayBy(s, books, allowed, width, cut);
            if (better(way, best)) {
                best = way;
            }
        }
        return best;
    }

    static Way wayBy(State s, List<Book> books, List<Integer> allowed, int width, int cut) {
        List<Integer> lengths = lengthsBy(books.size(), cut);
        int at = 0;
        int sum = 0;
        for (int n : lengths) {
            int set = setOf(books.subList(at, at + n), allowed);
            if (set == 0 || !fits(books, at, at + n, width)) {
                return null;
            }
            sum += priceOf(s, set, n);
            at += n;
        }
        return new Way(sum, lengths);
    }

    static List<Integer> lengthsBy(int many, int cut) {
        List<Integer> lengths = new ArrayList<>();
        int n = 0;
        for (int i = 0; i < many; i++) {
            n++;
            if (i + 1 == many || (cut >> i & 1) != 0) {
                lengths.add(n);
                n = 0;
            }
        }
        return lengths;
    }

    static Way bestFromBehind(State s, List<Book> books, List<Integer> allowed, int width) {
        Way[] from = new Way[books.size() + 1];
        from[books.size()] = new Way(0, List.of());
        for (int i = books.size() - 1; i >= 0; i--) {
            for (int to = i + 1; to <= books.size(); to++) {
                int set = setOf(books.subList(i, to), allowed);
                if (set != 0 && from[to] != null && fits(books, i, to, width)) {
                    List<Integer> lengths = new ArrayList<>(List.of(to - i));
                    lengths.addAll(from[to].lengths);
                    Way way = new Way(priceOf(s, set, to - i) + from[to].prices, lengths);
                    if (better(way, from[i])) {
                        from[i] = way;
                    }
                }
            }
        }
        return from[0];
    }

    static boolean better(Way a, Way b) {
        if (a == null || b == null) {
            return a != null;
        }
        if (a.prices != b.prices) {
            return a.prices < b.prices;
        }
        for (int i = 0; i < Math.min(a.lengths.size(), b.lengths.size()); i++) {
            if (!a.lengths.get(i).equals(b.lengths.get(i))) {
                return a.lengths.get(i) > b.lengths.get(i);
            }
        }
        return false;
    }

    static Way setting(State s) {
        return best(s, s.books, s.allowed, s.width);
    }

    static int lineOf(Way w, int book) {
        int end = 0;
        for (int i = 0; i < w.lengths.size(); i++) {
            end += w.lengths.get(i);
            if (book < end) {
                return i;
            }
        }
        throw new IllegalStateException();
    }

    static List<Book> lineBooks(State s, Way w, int line) {
        int from = 0;
        for (int i = 0; i < line; i++) {
            from += w.lengths.get(i);
        }
        return s.books.subList(from, from + w.lengths.get(line));
    }

    int setting(int what) {
        if (what < -2) {
            return BAD;
        }
        Way w = setting(now);
        if (w == null || what >= w.lengths.size()) {
            return NONE;
        }
        return what == -2 ? w.prices : what == -1 ? w.lengths.size()
            : w.lengths.subList(0, what).stream().mapToInt(n -> n).sum();
    }

    int line(int line, int what) {
        if (line < 0 || !in(what, 0, 4)) {
            return BAD;
        }
        Way w = setting(now);
        if (w == null || line >= w.lengths.size()) {
            return NONE;
        }
        List<Book> of = lineBooks(now, w, line);
        int set = setOf(of, now.allowed);
        return new int[] {of.size(), of.stream().mapToInt(Book::thick).sum(),
            of.stream().mapToInt(Book::height).max().orElseThrow(), set, priceOf(now, set, of.size())}[what];
    }

    int allow(int height) {
        if (!in(height, 1, 99)) {
            return BAD;
        }
        if (now.allowed.contains(height)) {
            return NO;
        }
        if (now.allowed.size() == 6) {
            return FULL;
        }
        now.allowed.add(height);
        return now.allowed.size();
    }

    int clear() {
        int were = now.allowed.size();
        now.allowed.clear();
        return were;
    }

    int cases(int what) {
        if (!in(what, 0, 1)) {
            return BAD;
        }
        int[] best = null;
        if (now.books.size() > 13) {
            best = casesFromAhead();
        } else {
            for (int cut = 0; cut < 1 << Math.max(0, now.books.size() - 1); cut++) {
                int[] used = casesBy(lengthsBy(now.books.size(), cut));
                if (used != null && (best == null || Arrays.compare(used, best) < 0)) {
                    best = used;
                }
            }
        }
        return best == null ? NONE : best[what];
    }

    private int[] casesBy(List<Integer> lengths) {
        int[] used = {0, 0};
        int at = 0;
        for (int n : lengths) {
            int set = setOf(now.books.subList(at, at + n), now.allowed);
            if (set == 0 || !fits(now.books, at, at + n, now.width) || set + now.plank > now.caseHeight) {
                return null;
            }
            used = stack(used, set + now.plank);
            at += n;
        }
        return used;
    }

    private int[] stack(int[] used, int h) {
        return used[0] == 0 || used[1] + h > now.caseHeight ? new int[] {used[0] + 1, h}
            : new int[] {used[0], used[1] + h};
    }

    /** All unlike fillings that can be reached behind each book. */
    private int[] casesFromAhead() {
        List<TreeSet<Integer>> reached = new ArrayList<>();
        for (int i = 0; i <= now.books.size(); i++) {
            reached.add(new TreeSet<>());
        }
        reached.get(0).add(0);
        for (int i = 0; i < now.books.size(); i++) {
            for (int to = i + 1; to <= now.books.size(); to++) {
                int set = setOf(now.books.subList(i, to), now.allowed);
                if (set == 0 || !fits(now.books, i, to, now.width) || set + now.plank > now.caseHeight) {
                    continue;
                }
                for (int r : reached.get(i)) {
                    int[] then = stack(new int[] {r / 5000, r % 5000}, set + now.plank);
                    reached.get(to).add(then[0] * 5000 + then[1]);
                }
            }
        }
        TreeSet<Integer> last = reached.get(now.books.size());
        return last.isEmpty() ? null : new int[] {last.first() / 5000, last.first() % 5000};
    }

    int few(int k, int what) {
        if (!in(k, 1, 3) || !in(what, -1, k - 1)) {
            return BAD;
        }
        TreeSet<Integer> unlike = new TreeSet<>();
        now.books.forEach(b -> unlike.add(b.height));
        List<Integer> heights = new ArrayList<>(unlike);
        List<Integer> best = null;
        int least = 0;
        for (List<Integer> set : sets(heights, k, 0)) {
            Way w = best(now, now.books, set, now.width);
            if (w != null && (best == null || w.prices < least)) {
                best = set;
                least = w.prices;
            }
        }
        return best == null ? NONE : what == -1 ? least : best.get(what);
    }

    static List<List<Integer>> sets(List<Integer> of, int k, int from) {
        List<List<Integer>> all = new ArrayList<>();
        if (k == 0) {
            all.add(List.of());
            return all;
        }
        for (int i = from; i < of.size(); i++) {
            for (List<Integer> more : sets(of, k - 1, i + 1)) {
                List<Integer> set = new ArrayList<>(List.of(of.get(i)));
                set.addAll(more);
                all.add(set);
            }
        }
        return all;
    }

    int apart(int t) {
        if (!in(t, 1, 100)) {
            return BAD;
        }
        List<Book> tall = new ArrayList<>();
        List<Book> others = new ArrayList<>();
        int walks = 0;
        Text walk = counts(now, 1);
        for (Book b : now.books) {
            (b.height >= t ? tall : others).add(b.tied(false));
            if (b.height >= t) {
                walks += walk == null ? 5 : hold(work(walk, b.height, b.part), 0, 999);
            }
        }
        Way a = best(now, tall, now.allowed, now.width);
        Way b = best(now, others, now.allowed, now.width);
        return a == null || b == null ? NONE : a.prices + b.prices + walks;
    }

    int edge() {
        int best = NONE;
        int least = 0;
        for (int t = 1; t <= 100; t++) {
            int p = apart(t);
            if (p != NONE && (best == NONE || p <= least)) {
                best = t;
                least = p;
            }
        }
        return best;
    }

    // ---- texts
    int feed(int a, int b, int c) {
        if (tape.size() + 12 > 96) {
            return FULL;
        }
        for (int v : new int[] {a, b, c}) {
            tape.add(v >> 24 & 255);
            tape.add(v >> 16 & 255);
            tape.add(v >> 8 & 255);
            tape.add(v & 255);
        }
        return tape.size();
    }

    int trim(int n) {
        if (!in(n, 0, tape.size())) {
            return BAD;
        }
        tape = new ArrayList<>(tape.subList(0, n));
        return n;
    }

    static boolean letters(String w) {
        return w.charAt(0) >= 'a' && w.charAt(0) <= 'z';
    }

    static boolean digits(String w) {
        return w.charAt(0) >= '0' && w.charAt(0) <= '9';
    }

    /** A state machine over words: what may come, brackets and nots that stand open, tests by bracket. */
    int text() {
        StringBuilder all = new StringBuilder();
        tape.forEach(b -> all.append((char) (int) b));
        tape = new ArrayList<>();
        String s = all.toString();
        List<String> words = new ArrayList<>();
        List<Integer> places = new ArrayList<>();
        java.util.regex.Matcher m = java.util.regex.Pattern.compile("[a-z]+|[0-9]+|[^ ]", 32).matcher(s);
        while (m.find()) {
            words.add(m.group());
            places.add(m.start());
        }
        int key = -1;
        boolean piece = true;
        List<Boolean> tested = new ArrayList<>(List.of(false));
        List<Integer> notsAt = new ArrayList<>(List.of(0));
        int nots = 0;
        int behind = -1;
        for (int i = 0; i < words.size(); i++) {
            String w = words.get(i);
            int place = places.get(i);
            boolean word = letters(w) || digits(w);
            int top = tested.size() - 1;
            int fault = -100 - place;
            if (word && behind == place) {
                return fault;
            }
            behind = word ? place + w.length() : -1;
            if (i == 0) {
                key = List.of("cost", "walk", "grow").indexOf(w);
                if (key < 0) {
                    return fault;
                }
            } else if (piece) {
                if (w.equals("!")) {
                    nots++;
                    if (nots > 8) {
                        return fault;
                    }
                } else if (w.equals("(")) {
                    if (top == 8) {
                        return fault;
                    }
                    tested.add(false);
                    notsAt.add(nots);
                } else if (digits(w) && w.length() <= 4 || letters(w) && name(key, w) >= 0) {
                    piece = false;
                    nots = notsAt.get(top);
                } else {
                    return fault;
                }
            } else if (w.equals(")")) {
                if (top == 0) {
                    return fault;
                }
                tested.remove(top);
                notsAt.remove(top);
                nots = notsAt.get(top - 1);
            } else if ("<=>".contains(w)) {
                if (tested.get(top)) {
                    return fault;
                }
                tested.set(top, true);
                piece = true;
            } else if ("&|".contains(w)) {
                tested.set(top, false);
                piece = true;
            } else if ("+-*/".contains(w)) {
                piece = true;
            } else {
                return fault;
            }
        }
        if (piece || tested.size() > 1) {
            return -100 - s.length();
        }
        if (now.texts.size() == 14) {
            return FULL;
        }
        now.texts.add(new Text(key, words.subList(1, words.size())));
        return now.texts.size() - 1;
    }

    static int name(int key, String w) {
        return w.length() != 1 ? -1 : List.of("hnl", "hp", "py").get(key).indexOf(w);
    }

    static Text counts(State s, int key) {
        Text t = null;
        for (Text each : s.texts) {
            if (each.key == key) {
                t = each;
            }
        }
        return t;
    }

    static int work(Text t, int... values) {
        return work(t.key, t.words, values);
    }

    /** Parts words at the last of the loosest signs that stand in no brackets. */
    static int work(int key, List<String> words, int[] values) {
        for (String signs : List.of("|", "&", "<=>", "+-", "*/")) {
            int depth = 0;
            for (int i = words.size() - 1; i >= 0; i--) {
                String w = words.get(i);
                depth += w.equals(")") ? 1 : w.equals("(") ? -1 : 0;
                if (depth == 0 && signs.contains(w)) {
                    int a = work(key, words.subList(0, i), values);
                    int b = work(key, words.subList(i + 1, words.size()), values);
                    return join(w.charAt(0), a, b);
                }
            }
        }
        String w = words.get(0);
        if (w.equals("!")) {
            return work(key, words.subList(1, words.size()), values) == 0 ? 1 : 0;
        }
        if (w.equals("(")) {
            return work(key, words.subList(1, words.size() - 1), values);
        }
        return digits(w) ? Integer.parseInt(w) : values[name(key, w)];
    }

    static int join(char sign, int a, int b) {
        return switch (sign) {
            case '|' -> (a != 0) | (b != 0) ? 1 : 0;
            case '&' -> (a != 0) & (b != 0) ? 1 : 0;
            case '<' -> a < b ? 1 : 0;
            case '=' -> a == b ? 1 : 0;
            case '>' -> a > b ? 1 : 0;
            case '+' -> (int) ((long) a + b);
            case '-' -> (int) ((long) a - b);
            case '*' -> (int) ((long) a * b);
            default -> b == 0 ? 0 : (int) ((long) a / b);
        };
    }

    int textTold(int text, int what) {
        if (!in(text, 0, now.texts.size() - 1) || !in(what, 0, 1)) {
            return BAD;
        }
        Text t = now.texts.get(text);
        return what == 0 ? t.key : (int) t.words.stream().filter(w -> letters(w) || digits(w)).count();
    }

    int why(int key) {
        if (!in(key, 0, 2)) {
            return BAD;
        }
        int last = NONE;
        for (int i = 0; i < now.texts.size(); i++) {
            last = now.texts.get(i).key == key ? i : last;
        }
        return last;
    }

    // ---- years, walls, inches

    /** How thick each line is behind so many years. */
    static int[] grown(State s, Way w, int years) {
        int[] thick = new int[w.lengths.size()];
        for (int i = 0; i < thick.length; i++) {
            thick[i] = lineBooks(s, w, i).stream().mapToInt(Book::thick).sum();
        }
        Text grow = counts(s, 2);
        for (int part = 0; part < 8; part++) {
            int last = -1;
            for (int i = 0; i < s.books.size(); i++) {
                last = s.books.get(i).part == part ? i : last;
            }
            for (int y = 1; y <= years && last >= 0; y++) {
                thick[lineOf(w, last)] += grow == null ? 1 : hold(work(grow, part, y), 0, 99);
            }
        }
        return thick;
    }

    static int[] mostFull(int[] thick) {
        int most = Arrays.stream(thick).max().orElseThrow();
        for (int i = 0; ; i++) {
            if (thick[i] == most) {
                return new int[] {i, most};
            }
        }
    }

    int fullBy() {
        Way w = setting(now);
        if (w == null || w.lengths.isEmpty()) {
            return NONE;
        }
        for (int y = 1; y <= 60; y++) {
            if (mostFull(grown(now, w, y))[1] > now.width) {
                return y;
            }
        }
        return NONE;
    }

    int most(int n, int what) {
        if (!in(n, 0, 60) || !in(what, 0, 1)) {
            return BAD;
        }
        Way w = setting(now);
        return w == null || w.lengths.isEmpty() ? NONE : mostFull(grown(now, w, n))[what];
    }

    int wall(int m, int h) {
        if (!in(m, 0, 24) || !in(h, 1, 99)) {
            return BAD;
        }
        int next = 0;
        for (int board = 0; board < m; board++) {
            int used = 0;
            while (next < now.books.size() && used + now.books.get(next).thick <= now.width
                    && now.books.get(next).height <= h) {
                used += now.books.get(next).thick;
                next++;
            }
        }
        return next;
    }

    int inch(int v) {
        long width = (long) now.width + v;
        if (width < 1 || width > 999) {
            return BAD;
        }
        Way a = setting(now);
        Way b = best(now, now.books, now.allowed, (int) width);
        return a == null || b == null ? NONE : b.prices - a.prices;
    }

    int shift(int place, int size) {
        if (!in(place, 0, now.books.size()) || !sizeOk(size)) {
            return BAD;
        }
        if (now.books.size() == 24) {
            return FULL;
        }
        State then = now.twin();
        then.books.add(place, new Book(size / 100, size % 100, 0, false));
        if (place > 0) {
            then.books.set(place - 1, then.books.get(place - 1).tied(false));
        }
        Way a = setting(now);
        Way b = setting(then);
        if (a == null || b == null) {
            return NONE;
        }
        int moved = 0;
        for (int i = 0; i < now.books.size(); i++) {
            moved += lineOf(a, i) != lineOf(b, i < place ? i : i + 1) ? 1 : 0;
        }
        return moved;
    }

    // ---- sheets, slots
    int sheet(int sheet, int sort, int n) {
        if (!in(sheet, 0, 3) || !in(sort, -1, 1) || sort >= 0 && n > 24) {
            return BAD;
        }
        if (sort == -1) {
            sheets[sheet] = null;
            return 0;
        }
        if (n < 0) {
            return SIZE;
        }
        sheets[sheet] = sort == 0 ? new short[n] : new float[n];
        return n;
    }

    static int length(Object sheet) {
        return java.lang.reflect.Array.getLength(sheet);
    }

    static int value(Object sheet, int place) {
        if (sheet instanceof short[] s) {
            return s[place];
        }
        float f = ((float[]) sheet)[place];
        return Float.isNaN(f) ? NONE : (int) f;
    }

    int mark(int sheet, int place, int v) {
        if (!in(sheet, 0, 3)) {
            return BAD;
        }
        if (sheets[sheet] == null) {
            return NOTHING;
        }
        if (!in(place, 0, length(sheets[sheet]) - 1)) {
            return INDEX;
        }
        if (sheets[sheet] instanceof short[] s) {
            if (v == NONE) {
                return KIND;
            }
            s[place] = (short) v;
            return 1;
        }
        if (v != NONE && !in(v, -99999, 99999)) {
            return BAD;
        }
        ((float[]) sheets[sheet])[place] = v == NONE ? Float.NaN : v;
        return 1;
    }

    int pour(int sheet, int part) {
        if (!in(sheet, 0, 3) || !in(part, 0, 7)) {
            return BAD;
        }
        Object s = sheets[sheet];
        if (s == null) {
            return NOTHING;
        }
        List<Book> come = new ArrayList<>();
        for (int i = 0; i < length(s) && sizeOk(value(s, i)); i++) {
            come.add(new Book(value(s, i) / 100, value(s, i) % 100, part, false));
        }
        if (now.books.size() + come.size() > 24) {
            return FULL;
        }
        now.books.addAll(come);
        return come.size();
    }

    int copy(int from, int place, int to, int at, int many) {
        if (!in(from, 0, 3) || !in(to, 0, 3)) {
            return BAD;
        }
        if (sheets[from] == null || sheets[to] == null) {
            return NOTHING;
        }
        try {
            System.arraycopy(sheets[from], place, sheets[to], at, many);
        } catch (ArrayStoreException e) {
            return KIND;
        } catch (IndexOutOfBoundsException e) {
            return INDEX;
        }
        return many;
    }

    static int thing(Object o) {
        return o == null ? 0 : o instanceof Board ? 1 : o instanceof Integer ? 3 : 2;
    }

    int lay(int slot, int thing, int k) {
        if (!in(slot, 0, 4) || !in(thing, 0, 3) || thing == 1 && !in(k, 0, now.boards.size() - 1)
                || thing == 2 && !in(k, 0, 3)) {
            return BAD;
        }
        if (thing == 2 && sheets[k] == null) {
            return NOTHING;
        }
        int was = thing(slots[slot]);
        if (thing == 0) {
            slots[slot] = null;
        } else if (thing == 1) {
            slots[slot] = now.boards.get(k);
        } else if (thing == 2) {
            slots[slot] = sheets[k] instanceof short[] s ? (Object) s.clone() : ((float[]) sheets[k]).clone();
        } else {
            slots[slot] = Integer.valueOf(k);
        }
        return was;
    }

    int ask(int slot, int kind) {
        if (!in(slot, 0, 4) || !in(kind, 0, 5)) {
            return BAD;
        }
        if (slots[slot] == null) {
            return NOTHING;
        }
        return slots[slot] instanceof Board b && under(b.kind, kind) ? worth(b, b.kind) : KIND;
    }

    int item(int slot, int place) {
        if (!in(slot, 0, 4)) {
            return BAD;
        }
        if (slots[slot] == null) {
            return NOTHING;
        }
        if (thing(slots[slot]) != 2) {
            return KIND;
        }
        if (!in(place, 0, length(slots[slot]) - 1)) {
            return INDEX;
        }
        int v = value(slots[slot], place);
        return v == NONE ? KIND : v;
    }

    int rest(int slot, int n) {
        if (!in(slot, 0, 4)) {
            return BAD;
        }
        if (slots[slot] == null) {
            return NOTHING;
        }
        if (!(slots[slot] instanceof Integer v)) {
            return KIND;
        }
        return n == 0 ? NO : (int) ((long) v % n);
    }

    // ---- rows, images
    int tell(int v) {
        if (waiting.size() == 60) {
            return FULL;
        }
        waiting.add(v);
        return waiting.size();
    }

    int check(int n) {
        List<Integer> told = waiting;
        waiting = new ArrayList<>();
        if (!in(n, 1, 30)) {
            return BAD;
        }
        Way w = image == null ? null : setting(image);
        if (w == null || w.lengths.isEmpty()) {
            return NO;
        }
        List<Integer> due = new ArrayList<>();
        for (int y = 1; y <= n; y++) {
            int[] full = mostFull(grown(image, w, y));
            due.add(full[0]);
            due.add(full[1]);
        }
        if (due.equals(told)) {
            return 0;
        }
        int right = 0;
        while (right < due.size() && right < told.size() && due.get(right).equals(told.get(right))) {
            right++;
        }
        return 1 + right;
    }

    int keep() {
        image = now.twin();
        return now.books.size();
    }

    int back() {
        if (image == null) {
            return NO;
        }
        now = image.twin();
        return now.books.size();
    }

    int count(int what) {
        return switch (what) {
            case 0 -> now.books.size();
            case 1 -> now.boards.size();
            case 2 -> now.texts.size();
            case 3 -> now.allowed.size();
            case 4 -> now.books.stream().mapToInt(Book::thick).sum();
            case 5 -> (int) now.books.stream().filter(Book::tied).count();
            case 6 -> (int) now.books.stream().mapToInt(Book::height).distinct().count();
            case 7 -> waiting.size();
            case 8 -> tape.size();
            case 9 -> now.z;
            default -> BAD;
        };
    }
}
