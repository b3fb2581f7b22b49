import java.util.ArrayList;
import java.util.List;
import java.util.Random;

/** Runs of calls by seeds, each answer held against the one of SlowBoards. Arguments: the first seed, how many. */
public final class ModelTest {
    private static final int[] ODD = {Integer.MIN_VALUE, Integer.MAX_VALUE, -1000, -3, -2, -1, 0, 1, 2, 3, 4, 5, 6, 7,
        8, 9, 10, 24, 25, 60, 61, 99, 100, 101, 999, 1000, 9999, 10000, 32767, 32768, 65536, 99999, 100000, -99999,
        -100000, Due.NONE};

    private static final int AT_THE_BOUNDS = 8;

    private final Random dice;
    private final BookBoards x = new BookBoards();
    private final SlowBoards slow = new SlowBoards();
    private final List<String> calls = new ArrayList<>();
    /** How many books a run takes to, which keeps the slow ways short in most runs. */
    private final int books;
    private final boolean isWide;
    /** What a run does most; in one mood, numbers are often the first or the last right ones, or beside them. */
    private final int mood;

    private ModelTest(long seed) {
        dice = new Random(seed * 7919 + 13);
        int of = dice.nextInt(20);
        books = of == 0 ? 24 : of < 4 ? 9 + dice.nextInt(8) : 1 + dice.nextInt(9);
        isWide = dice.nextInt(4) == 0;
        mood = dice.nextInt(10);
    }

    public static void main(String[] args) {
        long from = args.length > 0 ? Long.parseLong(args[0]) : 1;
        int many = args.length > 1 ? Integer.parseInt(args[1]) : 300;
        int wrong = 0;
        int made = 0;
        for (long seed = from; seed < from + many; seed++) {
            ModelTest run = new ModelTest(seed);
            if (!run.goes()) {
                wrong++;
                System.out.println("seed " + seed + ": " + run.calls.get(run.calls.size() - 1) + " behind "
                        + run.calls.size() + " calls");
                if (wrong == 1) {
                    run.calls.forEach(c -> System.out.println("  " + c));
                }
            }
            made += run.calls.size();
        }
        System.out.println(made + " calls, " + wrong + " runs not as due");
        if (wrong != 0) {
            System.exit(1);
        }
    }

    /** Books, boards, texts and allowed heights up to their limits. */
    private boolean fills() {
        boolean is = true;
        for (int i = 0; i < 24 && is; i++) {
            int size = 100 * (1 + dice.nextInt(99)) + 1 + dice.nextInt(40);
            int part = i % 8;
            is = same("book(" + size + ", " + part + ")", slow.book(size, part), x.book(size, part));
        }
        for (int i = 0; i < 12 && is; i++) {
            int b = 100 * i + 23 - i;
            int kind = i % 6;
            is = same("board(" + kind + ", " + b + ", 9)", slow.board(kind, b, 9), x.board(kind, b, 9));
        }
        while (slow.now.texts.size() < 14 && calls.size() < 300 && is) {
            is = someText();
        }
        return is;
    }

    private boolean goes() {
        if (mood == 9 && dice.nextInt(3) == 0 && !fills()) {
            return false;
        }
        int many = 60 + dice.nextInt(430);
        // A step may be many calls, and an object is used for 512 of them.
        while (calls.size() < Math.min(many, 512 - 70)) {
            if (!step()) {
                return false;
            }
        }
        return true;
    }

    /** A number near what is right, mostly; now and then an odd one. */
    private int near(int least, int most) {
        if (mood == AT_THE_BOUNDS && dice.nextBoolean()) {
            return new int[] {least - 1, least, most, most + 1}[dice.nextInt(4)];
        }
        int of = dice.nextInt(24);
        if (of == 0) {
            return ODD[dice.nextInt(ODD.length)];
        }
        if (of == 1) {
            return dice.nextBoolean() ? least - 1 : most + 1;
        }
        return least + dice.nextInt(Math.max(1, most - least + 1));
    }

    /** Sheets and slots: mostly the first ones, so that runs come back to them. */
    private int few(int most) {
        return dice.nextInt(4) == 0 ? near(0, most) : dice.nextInt(2);
    }

    private int size() {
        if (dice.nextInt(20) == 0) {
            return near(101, 9999);
        }
        int thick = isWide ? 1 + dice.nextInt(99) : 5 + dice.nextInt(40);
        int height = dice.nextInt(3) == 0 ? 1 + dice.nextInt(99) : 20 + dice.nextInt(12);
        return 100 * height + thick;
    }

    private boolean same(String call, int want, int got) {
        calls.add(call + " answered " + got + ", due is " + want);
        return want == got;
    }

    private boolean step() {
        if (slow.now.books.size() < books && dice.nextInt(3) == 0) {
            return stepBooks(0);
        }
        switch (mood < 8 && dice.nextInt(3) == 0 ? mood : dice.nextInt(8)) {
            case 0:
                return stepBooks(1 + dice.nextInt(9));
            case 1:
                return stepBoards(dice.nextInt(7));
            case 2:
            case 3:
                return stepSetting(dice.nextInt(12));
            case 4:
                return stepTexts(dice.nextInt(6));
            case 5:
                return stepYears(dice.nextInt(5));
            case 6:
                return stepSheets(dice.nextInt(8));
            default:
                return stepRows(dice.nextInt(7));
        }
    }

    private boolean stepBooks(int of) {
        int many = slow.now.books.size();
        int a;
        int b;
        switch (of) {
            case 0:
                a = size();
                b = near(0, 7);
                return same("book(" + a + ", " + b + ")", slow.book(a, b), x.book(a, b));
            case 1:
            case 2:
                a = near(0, many - 1);
                b = near(0, 4);
                return same("bookTold(" + a + ", " + b + ")", slow.bookTold(a, b), x.bookTold(a, b));
            case 3:
            case 4:
            case 5:
                a = near(0, many - 1);
                boolean is = dice.nextInt(3) == 0;
                return same("tie(" + a + ", " + is + ")", slow.tie(a, is), x.tie(a, is));
            case 6:
                a = many < books ? near(1, Math.min(books - many, 4)) : near(25, 30);
                return same("deal(" + a + ")", slow.deal(a), x.deal(a));
            case 7:
                a = dice.nextInt();
                return same("seed(" + a + ")", slow.seed(a), x.seed(a));
            default:
                a = near(0, 2);
                b = a == 0 ? isWide ? near(80, 999) : near(30, 130) : a == 1 ? near(0, 9)
                    : dice.nextInt(3) == 0 ? near(1, 999) : near(30, 150);
                return same("set(" + a + ", " + b + ")", slow.set(a, b), x.set(a, b));
        }
    }

    private boolean stepBoards(int of) {
        int many = slow.now.books.size();
        int boards = slow.now.boards.size();
        int a = near(0, boards - 1);
        int b;
        switch (of) {
            case 0:
            case 1:
                int first = near(0, many - 1);
                int last = dice.nextInt(4) == 0 ? near(0, many - 1) : near(first, Math.min(many - 1, first + 3));
                a = near(0, 5);
                b = dice.nextInt(30) == 0 ? near(0, 2424) : first * 100 + last;
                int c = near(0, 99);
                return same("board(" + a + ", " + b + ", " + c + ")", slow.board(a, b, c), x.board(a, b, c));
            case 2:
            case 3:
                b = near(0, 7);
                return same("told(" + a + ", " + b + ")", slow.told(a, b), x.told(a, b));
            case 4:
                b = near(0, 5);
                return same("as(" + a + ", " + b + ")", slow.as(a, b), x.as(a, b));
            case 5:
                b = near(0, 5);
                return same("turns(" + a + ", " + b + ")", slow.turns(a, b), x.turns(a, b));
            default:
                if (dice.nextInt(3) == 0) {
                    return same("drop(" + a + ")", slow.drop(a), x.drop(a));
                }
                b = near(0, 2);
                return same("judge(" + b + ")", slow.judge(b), x.judge(b));
        }
    }

    private boolean stepSetting(int of) {
        int lines = slow.now.books.isEmpty() ? 1 : slow.now.books.size() / 2 + 1;
        int a;
        int b;
        switch (of) {
            case 0:
            case 1:
            case 2:
                a = near(-2, lines);
                return same("setting(" + a + ")", slow.setting(a), x.setting(a));
            case 3:
            case 4:
                a = near(0, lines);
                b = near(0, 4);
                return same("line(" + a + ", " + b + ")", slow.line(a, b), x.line(a, b));
            case 5:
            case 6:
                a = dice.nextInt(3) == 0 ? near(1, 99) : dice.nextBoolean() ? near(24, 40) : near(90, 99);
                return same("allow(" + a + ")", slow.allow(a), x.allow(a));
            case 7:
                if (dice.nextInt(2) == 0) {
                    return same("clear()", slow.clear(), x.clear());
                }
                a = near(0, 1);
                return same("cases(" + a + ")", slow.cases(a), x.cases(a));
            case 8:
                a = near(0, 1);
                return same("cases(" + a + ")", slow.cases(a), x.cases(a));
            case 9:
                a = near(1, slow.now.books.size() > 9 ? 2 : 3);
                b = near(-1, 2);
                return same("few(" + a + ", " + b + ")", slow.few(a, b), x.few(a, b));
            case 10:
                a = dice.nextBoolean() ? near(1, 100) : near(20, 35);
                return same("apart(" + a + ")", slow.apart(a), x.apart(a));
            default:
                if (slow.now.books.size() > 9 && dice.nextInt(4) != 0) {
                    return true;
                }
                return same("edge()", slow.edge(), x.edge());
        }
    }

    private boolean stepTexts(int of) {
        int a;
        int b;
        switch (of) {
            case 0:
            case 1:
                return someText();
            case 2:
                a = near(0, slow.tape.size());
                return same("trim(" + a + ")", slow.trim(a), x.trim(a));
            case 3:
                a = dice.nextInt();
                return same("feed(" + a + ", 1, 2)", slow.feed(a, 1, 2), x.feed(a, 1, 2));
            case 4:
                a = near(0, slow.now.texts.size() - 1);
                b = near(0, 1);
                return same("textTold(" + a + ", " + b + ")", slow.textTold(a, b), x.textTold(a, b));
            default:
                a = near(0, 2);
                return same("why(" + a + ")", slow.why(a), x.why(a));
        }
    }

    private boolean someText() {
        if (!same("trim(0)", slow.trim(0), x.trim(0))) {
            return false;
        }
        String t = new TextMaker(dice).text();
        int[] bytes = Due.bytes(t.length() > 96 ? t.substring(0, 96) : t);
        for (int i = 0; i < bytes.length; i += 12) {
            int a = Due.four(bytes, i);
            int b = Due.four(bytes, i + 4);
            int c = Due.four(bytes, i + 8);
            if (!same("feed(" + a + ", " + b + ", " + c + ")", slow.feed(a, b, c), x.feed(a, b, c))) {
                return false;
            }
        }
        int n = bytes.length;
        if (!same("trim(" + n + ")", slow.trim(n), x.trim(n))) {
            return false;
        }
        return same("text() of " + t, slow.text(), x.text());
    }

    private boolean stepYears(int of) {
        int a;
        int b;
        switch (of) {
            case 0:
                return same("fullBy()", slow.fullBy(), x.fullBy());
            case 1:
                a = near(0, dice.nextInt(3) == 0 ? 60 : 6);
                b = near(0, 1);
                return same("most(" + a + ", " + b + ")", slow.most(a, b), x.most(a, b));
            case 2:
                a = near(0, dice.nextInt(3) == 0 ? 24 : 5);
                b = dice.nextBoolean() ? near(1, 99) : near(28, 32);
                return same("wall(" + a + ", " + b + ")", slow.wall(a, b), x.wall(a, b));
            case 3:
                a = dice.nextInt(3) == 0 ? near(1 - slow.now.width, 999 - slow.now.width) : near(-20, 20);
                return same("inch(" + a + ")", slow.inch(a), x.inch(a));
            default:
                a = near(0, slow.now.books.size());
                b = size();
                return same("shift(" + a + ", " + b + ")", slow.shift(a, b), x.shift(a, b));
        }
    }

    private boolean stepSheets(int of) {
        int a = few(3);
        int b;
        int c;
        int slot = few(4);
        switch (of) {
            case 0:
                b = dice.nextInt(12) == 0 ? -1 : near(0, 1);
                c = dice.nextInt(4) == 0 ? near(0, 24) : near(0, 4);
                return same("sheet(" + a + ", " + b + ", " + c + ")", slow.sheet(a, b, c), x.sheet(a, b, c));
            case 1:
            case 2:
                b = near(0, 3);
                c = dice.nextInt(10) == 0 ? Due.NONE : dice.nextInt(8) == 0 ? near(-100000, 100000) : size();
                return same("mark(" + a + ", " + b + ", " + c + ")", slow.mark(a, b, c), x.mark(a, b, c));
            case 3:
                if (slow.now.books.size() + 2 > books && dice.nextInt(6) != 0) {
                    return true;
                }
                b = near(0, 7);
                return same("pour(" + a + ", " + b + ")", slow.pour(a, b), x.pour(a, b));
            case 4:
                b = near(0, 3);
                int to = few(3);
                int at = near(0, 3);
                c = near(0, 3);
                return same("copy(" + a + ", " + b + ", " + to + ", " + at + ", " + c + ")",
                        slow.copy(a, b, to, at, c), x.copy(a, b, to, at, c));
            case 5:
                b = near(0, 3);
                c = b == 3 ? dice.nextInt() : few(3);
                return same("lay(" + slot + ", " + b + ", " + c + ")", slow.lay(slot, b, c), x.lay(slot, b, c));
            case 6:
                b = near(0, 5);
                return same("ask(" + slot + ", " + b + ")", slow.ask(slot, b), x.ask(slot, b));
            default:
                b = near(-2, 6);
                return dice.nextBoolean() ? same("item(" + slot + ", " + b + ")", slow.item(slot, b), x.item(slot, b))
                    : same("rest(" + slot + ", " + b + ")", slow.rest(slot, b), x.rest(slot, b));
        }
    }

    private boolean stepRows(int of) {
        int a;
        switch (of) {
            case 0:
                a = near(-1, 60);
                return same("tell(" + a + ")", slow.tell(a), x.tell(a));
            case 1:
            case 2:
                return years();
            case 3:
                return same("keep()", slow.keep(), x.keep());
            case 4:
                return dice.nextInt(3) != 0 || same("back()", slow.back(), x.back());
            default:
                a = near(0, 9);
                return same("count(" + a + ")", slow.count(a), x.count(a));
        }
    }

    /** Tells the years as they are, or nearly so, and checks them. */
    private boolean years() {
        int n = dice.nextInt(6) == 0 ? near(1, 30) : near(1, 4);
        SlowBoards.Way w = slow.image == null ? null : SlowBoards.setting(slow.image);
        if (w != null && !w.lengths().isEmpty() && n > 0 && n < 32) {
            int twist = dice.nextInt(2 * n) * (dice.nextBoolean() ? 1 : -1);
            int many = 2 * n + (dice.nextInt(3) == 0 ? dice.nextInt(3) - 1 : 0);
            for (int i = 0; i < many && i < 60; i++) {
                int v = SlowBoards.mostFull(SlowBoards.grown(slow.image, w, i / 2 + 1))[i % 2];
                v += i == twist ? 1 : 0;
                if (!same("tell(" + v + ")", slow.tell(v), x.tell(v))) {
                    return false;
                }
            }
        }
        return same("check(" + n + ")", slow.check(n), x.check(n));
    }
}
