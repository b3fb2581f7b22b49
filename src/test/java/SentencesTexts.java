/** Promises 22 to 26: feed, trim, text, textTold, why. */
final class SentencesTexts {
    private static final int BAD = Due.BAD, FULL = Due.FULL, NONE = Due.NONE;
    private static final int LEAST = Integer.MIN_VALUE, GREATEST = Integer.MAX_VALUE;

    private SentencesTexts() {
    }

    static void all() {
        feed();
        feedFull();
        trim();
        trimRefused();
        text();
        textFault();
        textFull();
        textTold();
        textToldRefused();
        why();
        whyRefused();
    }

    private static void feed() {
        Doc.says("Promise 22", "Twelve bytes come to THE TAPE, the highest of each number first: how many it has.");
        BookBoards x = new BookBoards();
        for (int i = 1; i <= 8; i++) {
            Due.row(Due.of(12 * i, 12 * i), x.feed(LEAST, GREATEST, -1), x.count(8));
        }
        // 'c' 'o' 's' 't', ' ' 'h' '+' 'n', ' ' ' ' ' ' ' '; and the same from the lowest on.
        BookBoards y = new BookBoards();
        y.feed(0x636F7374, 0x20682B6E, 0x20202020);
        Due.row(Due.of(0, 2), y.text(), y.textTold(0, 1));
        y.feed(0x74736F63, 0x6E2B6820, 0x20202020);
        Due.is(-100, y.text());
        // A byte of 128 and more is no letter, nor does it touch those beside it.
        y.feed(0x636F7374, 0x20688068, 0x20202020);
        Due.is(-106, y.text());
        y.feed(0xE36F7374, 0x20682020, 0x20202020);
        Due.is(-100, y.text());
    }

    private static void feedFull() {
        Doc.says("Promise 22", "FULL: it would have more than 96.");
        Twins.same(FULL, Twins.State.FULL, x -> x.feed(0, 0, 0), x -> x.feed(LEAST, GREATEST, -1));
        BookBoards x = new BookBoards();
        for (int i = 0; i < 8; i++) {
            x.feed(0, 0, 0);
        }
        Due.row(Due.of(FULL, 96), x.feed(0, 0, 0), x.count(8));
        Due.row(Due.of(95, FULL, 95), x.trim(95), x.feed(0, 0, 0), x.count(8));
        Due.row(Due.of(85, FULL, 85), x.trim(85), x.feed(0, 0, 0), x.count(8));
        Due.row(Due.of(84, 96, FULL), x.trim(84), x.feed(0, 0, 0), x.feed(0, 0, 0));
        Due.row(Due.of(83, 95, FULL), x.trim(83), x.feed(0, 0, 0), x.feed(0, 0, 0));
        Due.row(Due.of(0, 12), x.trim(0), x.feed(0, 0, 0));
    }

    private static void trim() {
        Doc.says("Promise 23", "THE TAPE keeps its first n bytes: n.");
        BookBoards x = new BookBoards();
        Due.row(Due.of(0, 0), x.trim(0), x.count(8));
        Twins.twelve(x, "cost h+n+l+h");
        Due.row(Due.of(12, 12), x.trim(12), x.count(8));
        Due.row(Due.of(8, 8, 0, 2), x.trim(8), x.count(8), x.text(), x.textTold(0, 1));
        Twins.twelve(x, "cost h+n+l+h");
        Due.row(Due.of(0, 0, -100), x.trim(0), x.count(8), x.text());
        // What was cut off does not come back: what is fed then stands right behind the rest.
        Twins.twelve(x, "cost h+n+l+h");
        x.trim(6);
        Twins.twelve(x, "*2          ");
        Due.row(Due.of(18, 1, 2), x.count(8), x.text(), x.textTold(1, 1));
        // A full tape by one byte.
        BookBoards y = Twins.made(Twins.State.FULL);
        Due.row(Due.of(96, 95), y.trim(96), y.trim(95));
    }

    private static void trimRefused() {
        Doc.says("Promise 23", "BAD.");
        Twins.same(BAD, Twins.State.BARE, x -> x.trim(1), x -> x.trim(-1), x -> x.trim(96), x -> x.trim(LEAST),
                x -> x.trim(GREATEST));
        Twins.same(BAD, Twins.State.SOME, x -> x.trim(13), x -> x.trim(-1), x -> x.trim(96), x -> x.trim(LEAST),
                x -> x.trim(GREATEST));
        Twins.same(BAD, Twins.State.FULL, x -> x.trim(97), x -> x.trim(-1));
        BookBoards x = Twins.made(Twins.State.SOME);
        Due.row(Due.of(5, BAD, 5), x.trim(5), x.trim(6), x.trim(5));
    }

    private static void text() {
        Doc.says("Promise 24", "THE TAPE is a TEXT: its number.");
        BookBoards x = new BookBoards();
        for (int i = 0; i < 14; i++) {
            Due.row(Due.of(i, i + 1, 0), Due.text(x, i % 2 == 0 ? "cost 1" : "grow 1+1"), x.count(2), x.count(8));
        }
        for (int i = 0; i < 14; i++) {
            Due.row(Due.of(i % 2 * 2, 1 + i % 2), x.textTold(i, 0), x.textTold(i, 1));
        }
    }

    private static void textFault() {
        Doc.says("Promise 24", "-100 less the place of its FAULT;");
        SentencesTerms3.fault(0, "");
        SentencesTerms3.fault(0, "h");
        SentencesTerms3.fault(1, " h");
        SentencesTerms3.fault(96, "cost h" + "+h".repeat(44) + "+ ");
        SentencesTerms3.fault(95, "cost h" + "+h".repeat(44) + " )");
        BookBoards x = new BookBoards();
        Due.row(Due.of(-100, -101, -196), x.text(), Due.text(x, " )"), Due.text(x, " ".repeat(96)));
        // Nothing but the tape changes.
        BookBoards y = Twins.made(Twins.State.SOME);
        y.trim(7);
        Due.row(Due.of(-107, 0, 3, 0, 1, 2), y.text(), y.count(8), y.count(2), y.why(0), y.why(1), y.why(2));
    }

    private static void textFull() {
        Doc.says("Promise 24", "FULL.");
        BookBoards x = Twins.made(Twins.State.FULL);
        Due.row(Due.of(FULL, 0, 14), x.text(), x.count(8), x.count(2));
        Due.row(Due.of(12, 13, 11), x.why(0), x.why(1), x.why(2));
        // A fault stands first.
        Due.row(Due.of(-100, -105, 0, 14), x.text(), Due.text(x, "cost p"), x.count(8), x.count(2));
        Due.row(Due.of(FULL, FULL), Due.text(x, "cost h"), Due.text(x, "grow 1"));
        // One less than full is not full.
        BookBoards y = new BookBoards();
        for (int i = 0; i < 13; i++) {
            Due.text(y, "walk 1");
        }
        Due.row(Due.of(13, FULL, 13), Due.text(y, "walk 2"), Due.text(y, "walk 3"), y.why(1));
    }

    private static void textTold() {
        Doc.says("Promise 25", "Of a TEXT: what 0 KEY (0 cost, 1 walk, 2 grow), 1 how many NUMBERS and NAMES it has.");
        BookBoards x = new BookBoards();
        Due.text(x, "cost 1");
        Due.text(x, "walk h");
        Due.text(x, "grow !(p)");
        Due.text(x, "cost 1234+h*(n-l)/0&!!5|7=8");
        Due.text(x, "cost h" + "+h".repeat(45));
        Due.row(Due.of(0, 1, 2, 0, 0), x.textTold(0, 0), x.textTold(1, 0), x.textTold(2, 0), x.textTold(3, 0),
                x.textTold(4, 0));
        Due.row(Due.of(1, 1, 1, 8, 46), x.textTold(0, 1), x.textTold(1, 1), x.textTold(2, 1), x.textTold(3, 1),
                x.textTold(4, 1));
    }

    private static void textToldRefused() {
        Doc.says("Promise 25", "BAD.");
        Twins.same(BAD, Twins.State.BARE, x -> x.textTold(0, 0), x -> x.textTold(-1, 0), x -> x.textTold(0, 1));
        Twins.same(BAD, Twins.State.SOME, x -> x.textTold(3, 0), x -> x.textTold(-1, 0), x -> x.textTold(3, 1),
                x -> x.textTold(0, -1), x -> x.textTold(0, 2), x -> x.textTold(2, 2), x -> x.textTold(LEAST, 0),
                x -> x.textTold(GREATEST, 0), x -> x.textTold(0, LEAST), x -> x.textTold(0, GREATEST));
        Twins.same(BAD, Twins.State.FULL, x -> x.textTold(14, 0), x -> x.textTold(13, 2));
        Twins.same(1, Twins.State.FULL, x -> x.textTold(13, 0));
        // Those that went with back() are no more.
        BookBoards x = Twins.made(Twins.State.FULL);
        x.back();
        Due.row(Due.of(2, BAD, BAD), x.textTold(0, 0), x.textTold(1, 0), x.textTold(13, 0));
    }

    private static void why() {
        Doc.says("Promise 26", "The TEXT that counts for a KEY.");
        BookBoards x = new BookBoards();
        for (int i = 0; i < 14; i++) {
            int key = i * i % 3;
            Due.text(x, new String[] {"cost 1", "walk 1", "grow 1"}[key]);
            Due.is(i, x.why(key));
        }
        // Told with squares: 0 and 1, never 2.
        Due.row(Due.of(12, 13, NONE), x.why(0), x.why(1), x.why(2));
    }

    private static void whyRefused() {
        Doc.says("Promise 26", "BAD; NONE.");
        for (Twins.State state : Twins.State.values()) {
            Twins.same(BAD, state, x -> x.why(-1), x -> x.why(3), x -> x.why(LEAST), x -> x.why(GREATEST));
        }
        Twins.same(NONE, Twins.State.BARE, x -> x.why(0), x -> x.why(1), x -> x.why(2));
        BookBoards x = new BookBoards();
        Due.text(x, "walk 1");
        Due.row(Due.of(NONE, 0, NONE), x.why(0), x.why(1), x.why(2));
    }
}
