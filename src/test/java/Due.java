/** What tests of this project are written with: an answer beside the one that is due, and the place in the test. */
final class Due {
    private static int wrong = 0;
    private static int asked = 0;
    /** The sentence of the document that is tested now, where a test names one. */
    private static String sentence = "";

    static final int BAD = -1000000001, NO = -1000000002, FULL = -1000000003, NONE = -1000000005,
            NOTHING = -1000000011, KIND = -1000000012, INDEX = -1000000013, SIZE = -1000000014;

    private Due() {
    }

    static void by(String itsSentence) {
        sentence = itsSentence;
    }

    static void is(int want, int got) {
        asked++;
        if (want != got) {
            tellWrong("answered " + got + ", due is " + want);
        }
    }

    static void isTrue(boolean holds, String what) {
        asked++;
        if (!holds) {
            tellWrong(what);
        }
    }

    private static void tellWrong(String what) {
        wrong++;
        System.out.println(place() + ": " + what + (sentence.isEmpty() ? "" : "\n    by " + sentence));
    }

    /** The same answer is due from each call. */
    static void all(int want, int... got) {
        for (int i = 0; i < got.length; i++) {
            asked++;
            if (got[i] != want) {
                tellWrong("answer " + i + " is " + got[i] + ", due is " + want);
            }
        }
    }

    /** The answers of many calls, in a row. */
    static void row(int[] want, int... got) {
        isTrue(want.length == got.length, "the rows are not of one length");
        for (int i = 0; i < Math.min(want.length, got.length); i++) {
            asked++;
            if (got[i] != want[i]) {
                tellWrong("answer " + i + " is " + got[i] + ", due is " + want[i]);
            }
        }
    }

    static int[] of(int... values) {
        return values;
    }

    /** An object with books of these sizes, all of part 0. */
    static BookBoards withBooks(int... sizes) {
        BookBoards x = new BookBoards();
        for (int size : sizes) {
            x.book(size, 0);
        }
        return x;
    }

    /** Makes a sheet a row of these numbers. */
    static void fill(BookBoards x, int sheet, int sort, int... values) {
        x.sheet(sheet, sort, values.length);
        for (int i = 0; i < values.length; i++) {
            x.mark(sheet, i, values[i]);
        }
    }

    /** What stands at a place of a sheet, by way of slot 4. */
    static int at(BookBoards x, int sheet, int place) {
        int laid = x.lay(4, 2, sheet);
        return laid < 0 ? laid : x.item(4, place);
    }

    /** Puts bytes on the tape: feeds them with blanks behind them and trims those off. */
    static void tape(BookBoards x, int[] bytes) {
        int before = x.count(8);
        for (int at = 0; at < bytes.length; at += 12) {
            int fed = x.feed(four(bytes, at), four(bytes, at + 4), four(bytes, at + 8));
            if (fed == FULL) {
                throw new IllegalStateException("the tape is full");
            }
        }
        x.trim(before + bytes.length);
    }

    static void tape(BookBoards x, String text) {
        tape(x, bytes(text));
    }

    static int[] bytes(String text) {
        int[] bytes = new int[text.length()];
        for (int i = 0; i < bytes.length; i++) {
            bytes[i] = text.charAt(i);
        }
        return bytes;
    }

    static int four(int[] bytes, int at) {
        int v = 0;
        for (int i = at; i < at + 4; i++) {
            v = v << 8 | (i < bytes.length ? bytes[i] : 32);
        }
        return v;
    }

    static int text(BookBoards x, String text) {
        tape(x, text);
        return x.text();
    }

    private static String place() {
        return StackWalker.getInstance().walk(frames -> frames
                .filter(f -> !f.getClassName().equals("Due") && !f.getClassName().equals("Twins"))
                .map(f -> f.getFileName() + ":" + f.getLineNumber())
                .findFirst().orElse("?"));
    }

    static void end() {
        System.out.println(asked + " answers, " + wrong + " not as due");
        if (wrong != 0) {
            System.exit(1);
        }
    }
}
