/** Promises 14 to 21: setting, line, allow, clear, cases, few, apart, edge. */
final class SentencesSetting {
    private static final int BAD = Due.BAD, NO = Due.NO, FULL = Due.FULL, NONE = Due.NONE;
    private static final int LEAST = Integer.MIN_VALUE, GREATEST = Integer.MAX_VALUE;

    private SentencesSetting() {
    }

    static void all() {
        setting();
        settingBad();
        settingNone();
        line();
        lineRefused();
        allow();
        allowRefused();
        clear();
        cases();
        casesRefused();
        few();
        fewBad();
        fewNone();
        apart();
        apartRefused();
        edge();
    }

    /** 24 lines of one book each, from the lowest on. */
    private static BookBoards lines24() {
        BookBoards x = new BookBoards();
        for (int i = 0; i < 24; i++) {
            x.book(100 * (10 + i) + 60 + i, i % 8);
        }
        return x;
    }

    private static void setting() {
        Doc.says("Promise 14", "THE SETTING: what -2 PRICES together, -1 how many LINES, i the first BOOK of LINE i.");
        BookBoards x = Due.withBooks(2030, 3030, 4030, 5030, 6030);
        Due.row(Due.of(32 + 62, 2, 0, 2), x.setting(-2), x.setting(-1), x.setting(0), x.setting(1));
        BookBoards y = lines24();
        Due.row(Due.of(24 * 12 + 276, 24, 0, 1, 22, 23), y.setting(-2), y.setting(-1), y.setting(0), y.setting(1),
                y.setting(22), y.setting(23));
        Due.row(Due.of(0, 0), new BookBoards().setting(-2), new BookBoards().setting(-1));
    }

    private static void settingBad() {
        Doc.says("Promise 14", "BAD: what below -2;");
        Twins.same(BAD, Twins.State.SOME, x -> x.setting(-3), x -> x.setting(LEAST));
        Twins.same(BAD, Twins.State.TIGHT, x -> x.setting(-3), x -> x.setting(LEAST));
        Twins.same(BAD, Twins.State.BARE, x -> x.setting(-3));
    }

    private static void settingNone() {
        Doc.says("Promise 14", "NONE: there is no SETTING, or no such LINE.");
        Twins.same(NONE, Twins.State.TIGHT, x -> x.setting(-2), x -> x.setting(-1), x -> x.setting(0),
                x -> x.setting(GREATEST));
        Twins.same(NONE, Twins.State.BARE, x -> x.setting(0), x -> x.setting(1), x -> x.setting(GREATEST));
        BookBoards y = lines24();
        Due.row(Due.of(NONE, NONE, NONE), y.setting(24), y.setting(25), y.setting(GREATEST));
        y.set(0, 999);
        // They are 1716 thick together: two lines then.
        Due.row(Due.of(2, NONE, NONE, NONE), y.setting(-1), y.setting(2), y.setting(3), y.setting(23));
        y.set(0, 82);
        Due.all(NONE, y.setting(-2), y.setting(-1), y.setting(0));
        y.set(0, 83);
        Due.is(24, y.setting(-1));
    }

    private static void line() {
        Doc.says("Promise 15", "Of a LINE (from 0 on): what 0 how many BOOKS, 1 THICKNESS, 2 TALL, 3 SET, 4 PRICE.");
        BookBoards x = Due.withBooks(2040, 3030, 2530, 2040);
        x.set(0, 70);
        x.set(1, 5);
        x.allow(26);
        x.allow(45);
        Due.row(Due.of(2, 70, 30, 45, 50), x.line(0, 0), x.line(0, 1), x.line(0, 2), x.line(0, 3), x.line(0, 4));
        Due.row(Due.of(2, 70, 25, 26, 31), x.line(1, 0), x.line(1, 1), x.line(1, 2), x.line(1, 3), x.line(1, 4));
        Due.text(x, "cost h*100+n*10+l");
        Due.row(Due.of(45, 4525, 2625), x.line(0, 3), x.line(0, 4), x.line(1, 4));
        BookBoards y = lines24();
        Due.row(Due.of(1, 60, 10, 10, 12), y.line(0, 0), y.line(0, 1), y.line(0, 2), y.line(0, 3), y.line(0, 4));
        Due.row(Due.of(1, 83, 33, 33, 35), y.line(23, 0), y.line(23, 1), y.line(23, 2), y.line(23, 3), y.line(23, 4));
        Due.row(Due.of(1, 82, 32), y.line(22, 0), y.line(22, 1), y.line(22, 2));
    }

    private static void lineRefused() {
        Doc.says("Promise 15", "BAD: line below 0, what; NONE.");
        for (Twins.State state : new Twins.State[] {Twins.State.BARE, Twins.State.SOME, Twins.State.TIGHT}) {
            Twins.same(BAD, state, x -> x.line(-1, 0), x -> x.line(LEAST, 4), x -> x.line(0, -1), x -> x.line(0, 5),
                    x -> x.line(99, 5), x -> x.line(99, -1), x -> x.line(-1, 5), x -> x.line(0, LEAST),
                    x -> x.line(0, GREATEST));
            Twins.same(NONE, state, x -> x.line(99, 0), x -> x.line(GREATEST, 4), x -> x.line(24, 2));
        }
        for (int what = 0; what <= 4; what++) {
            int of = what;
            Twins.same(NONE, Twins.State.TIGHT, x -> x.line(0, of));
            Twins.same(NONE, Twins.State.BARE, x -> x.line(0, of));
        }
        BookBoards y = lines24();
        Due.row(Due.of(NONE, NONE, 1), y.line(24, 0), y.line(24, 4), y.line(23, 0));
        y.set(0, 999);
        Due.row(Due.of(2, NONE, NONE), y.setting(-1), y.line(2, 0), y.line(23, 1));
    }

    private static void allow() {
        Doc.says("Promise 16", "A height 1 .. 99 is ALLOWED: how many are.");
        BookBoards x = new BookBoards();
        Due.row(Due.of(1, 2, 3, 4, 5, 6, 6), x.allow(1), x.allow(99), x.allow(50), x.allow(2), x.allow(98), x.allow(51),
                x.count(3));
        BookBoards y = Due.withBooks(9910);
        y.allow(99);
        Due.is(99, y.line(0, 3));
        BookBoards w = Due.withBooks(110);
        w.allow(1);
        Due.is(1, w.line(0, 3));
    }

    private static void allowRefused() {
        Doc.says("Promise 16", "BAD; NO: it is; FULL.");
        Twins.same(BAD, Twins.State.SOME, x -> x.allow(0), x -> x.allow(100), x -> x.allow(-1), x -> x.allow(LEAST),
                x -> x.allow(GREATEST));
        Twins.same(NO, Twins.State.SOME, x -> x.allow(31), x -> x.allow(40));
        Twins.same(BAD, Twins.State.FULL, x -> x.allow(0), x -> x.allow(100));
        Twins.same(NO, Twins.State.FULL, x -> x.allow(20), x -> x.allow(40), x -> x.allow(99));
        Twins.same(FULL, Twins.State.FULL, x -> x.allow(1), x -> x.allow(21), x -> x.allow(98));
        // One less than full is not full; what was cleared is not allowed any more.
        BookBoards x = new BookBoards();
        for (int i = 1; i <= 5; i++) {
            x.allow(i);
        }
        Due.row(Due.of(6, FULL, NO, 6), x.allow(6), x.allow(7), x.allow(6), x.clear());
        Due.row(Due.of(1, NO, 2), x.allow(6), x.allow(6), x.allow(7));
    }

    private static void clear() {
        Doc.says("Promise 17", "No height is ALLOWED any more (so any is): how many were.");
        BookBoards x = Due.withBooks(3010, 9910);
        Due.row(Due.of(0, 0), x.clear(), x.count(3));
        x.allow(40);
        Due.row(Due.of(NONE, 1, 0, 101), x.setting(-2), x.clear(), x.count(3), x.setting(-2));
        BookBoards y = Twins.made(Twins.State.FULL);
        Due.row(Due.of(6, 0, 0, 1), y.clear(), y.count(3), y.clear(), y.allow(20));
    }

    private static void cases() {
        Doc.says("Promise 18", "CASES: what 0 how many, 1 the height that is used in the last one (0 without).");
        Due.row(Due.of(0, 0), new BookBoards().cases(0), new BookBoards().cases(1));
        BookBoards x = Due.withBooks(3060, 2060, 2560);
        Due.row(Due.of(1, 32 + 22 + 27), x.cases(0), x.cases(1));
        x.set(2, 54);
        Due.row(Due.of(2, 27), x.cases(0), x.cases(1));
        x.set(2, 53);
        Due.row(Due.of(2, 49), x.cases(0), x.cases(1));
        x.set(2, 48);
        Due.row(Due.of(3, 27), x.cases(0), x.cases(1));
        // Without books there is none, whatever a case is.
        BookBoards y = new BookBoards();
        y.set(2, 1);
        y.set(1, 9);
        Due.row(Due.of(0, 0), y.cases(0), y.cases(1));
    }

    private static void casesRefused() {
        Doc.says("Promise 18", "BAD; NONE: it can't be.");
        for (Twins.State state : Twins.State.values()) {
            Twins.same(BAD, state, x -> x.cases(-1), x -> x.cases(2), x -> x.cases(LEAST), x -> x.cases(GREATEST));
        }
        Twins.same(NONE, Twins.State.TIGHT, x -> x.cases(0), x -> x.cases(1));
        // A line that is too high, ties that are too thick, no allowed height.
        BookBoards x = Due.withBooks(3060, 2060);
        x.set(2, 32);
        Due.row(Due.of(2, 22), x.cases(0), x.cases(1));
        x.set(2, 31);
        Due.row(Due.of(NONE, NONE), x.cases(0), x.cases(1));
        x.set(2, 336);
        x.tie(0, true);
        Due.row(Due.of(NONE, NONE), x.cases(0), x.cases(1));
        x.set(0, 120);
        Due.row(Due.of(1, 32), x.cases(0), x.cases(1));
        x.allow(29);
        Due.row(Due.of(NONE, NONE), x.cases(0), x.cases(1));
    }

    private static void few() {
        Doc.says("Promise 19", "FEW by k (1 .. 3): what -1 PRICES together, 0 .. 2 the heights, rising.");
        BookBoards x = Due.withBooks(4060, 2060, 3060, 2060);
        Due.row(Due.of(4 * 42, 40), x.few(1, -1), x.few(1, 0));
        // Two of 20 and two of 40, or 30 for three of them.
        Due.row(Due.of(128, 20, 40), x.few(2, -1), x.few(2, 0), x.few(2, 1));
        Due.row(Due.of(118, 20, 30, 40), x.few(3, -1), x.few(3, 0), x.few(3, 1), x.few(3, 2));
        // The least and the greatest heights.
        BookBoards y = Due.withBooks(9960, 160);
        Due.row(Due.of(104, 1, 99), y.few(2, -1), y.few(2, 0), y.few(2, 1));
        // Prices of 0 are prices.
        Due.text(y, "cost 0");
        Due.row(Due.of(0, 0, 99), y.few(1, -1), y.few(2, -1), y.few(1, 0));
    }

    private static void fewBad() {
        Doc.says("Promise 19", "BAD: k, what (below k);");
        for (Twins.State state : new Twins.State[] {Twins.State.BARE, Twins.State.SOME, Twins.State.TIGHT}) {
            Twins.same(BAD, state, x -> x.few(0, -1), x -> x.few(4, -1), x -> x.few(LEAST, -1),
                    x -> x.few(GREATEST, 0), x -> x.few(0, 0), x -> x.few(-1, -1), x -> x.few(4, 3), x -> x.few(1, -2),
                    x -> x.few(2, -2), x -> x.few(3, -2), x -> x.few(1, 1), x -> x.few(2, 2), x -> x.few(3, 3),
                    x -> x.few(1, 2), x -> x.few(1, LEAST), x -> x.few(3, GREATEST));
        }
    }

    private static void fewNone() {
        Doc.says("Promise 19", "NONE: there is no such set with a SETTING.");
        for (int k = 1; k <= 3; k++) {
            for (int what = -1; what < k; what++) {
                int of = k;
                int told = what;
                Twins.same(NONE, Twins.State.BARE, x -> x.few(of, told));
                Twins.same(NONE, Twins.State.TIGHT, x -> x.few(of, told));
            }
        }
        BookBoards x = Due.withBooks(2060, 2060);
        Due.row(Due.of(44, NONE, NONE, NONE, NONE), x.few(1, -1), x.few(2, -1), x.few(2, 0), x.few(2, 1), x.few(3, -1));
        x.book(3060, 0);
        Due.row(Due.of(76, NONE, NONE), x.few(2, -1), x.few(3, -1), x.few(3, 2));
        x.book(4060, 0);
        Due.is(118, x.few(3, -1));
        x.tie(3, true);
        Due.is(118, x.few(3, -1));
        x.tie(2, true);
        Due.all(NONE, x.few(1, -1), x.few(2, -1), x.few(3, -1));
        // Of sets that were looked at ahead of it nothing is left over.
        Due.all(NONE, x.few(1, 0), x.few(2, 1), x.few(3, 2));
    }

    private static void apart() {
        Doc.says("Promise 20", "APART from t.");
        BookBoards x = Due.withBooks(2060, 3060, 2040);
        // Together 22 + 32 (60 + 40); apart 32 and 22 (60 + 40), and 5.
        Due.row(Due.of(54, 54, 59, 59, 69, 69), x.apart(100), x.apart(31), x.apart(30), x.apart(21), x.apart(20),
                x.apart(1));
        Due.row(Due.of(0, 0), new BookBoards().apart(1), new BookBoards().apart(100));
        Due.row(Due.of(3, 54), x.count(0), x.setting(-2));
    }

    private static void apartRefused() {
        Doc.says("Promise 20", "BAD; NONE: one of both has no SETTING.");
        for (Twins.State state : Twins.State.values()) {
            Twins.same(BAD, state, x -> x.apart(0), x -> x.apart(101), x -> x.apart(-1), x -> x.apart(LEAST),
                    x -> x.apart(GREATEST));
        }
        Twins.same(NONE, Twins.State.TIGHT, x -> x.apart(1), x -> x.apart(20), x -> x.apart(30), x -> x.apart(100));
        // The others alone have none, the tall ones alone have none.
        BookBoards x = Due.withBooks(2060, 3050);
        x.set(0, 59);
        Due.row(Due.of(NONE, NONE, NONE), x.apart(30), x.apart(1), x.apart(100));
        x.set(0, 60);
        x.allow(29);
        Due.row(Due.of(NONE, NONE, NONE), x.apart(30), x.apart(1), x.apart(100));
        x.allow(30);
        Due.is(29 + 30 + 4 + 5, x.apart(30));
    }

    private static void edge() {
        Doc.says("Promise 21", "THE EDGE. NONE.");
        Twins.same(100, Twins.State.BARE, x -> x.edge());
        Twins.same(NONE, Twins.State.TIGHT, x -> x.edge());
        BookBoards x = Due.withBooks(2060, 3050, 2040, 3050);
        Due.row(Due.of(86, 64, 30), x.apart(100), x.apart(30), x.edge());
        // Against every t, for books that are drawn.
        for (int seed = 1; seed <= 8; seed++) {
            BookBoards y = new BookBoards();
            y.seed(seed);
            y.deal(24);
            y.set(0, 20 + seed);
            Due.text(y, "walk " + seed / 3);
            int best = 1;
            for (int t = 2; t <= 100; t++) {
                best = y.apart(t) <= y.apart(best) ? t : best;
            }
            Due.is(best, y.edge());
        }
    }
}
