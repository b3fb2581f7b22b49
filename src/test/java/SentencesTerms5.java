import java.io.IOException;
import java.nio.file.Files;
import java.nio.file.Path;
import java.util.regex.Matcher;
import java.util.regex.Pattern;

/** 'Terms', part 5: sheets, slots, findings, images; and what stands ahead of the calls. */
final class SentencesTerms5 {
    private static final int BAD = Due.BAD, NO = Due.NO, FULL = Due.FULL, NONE = Due.NONE, NOTHING = Due.NOTHING,
            KIND = Due.KIND, INDEX = Due.INDEX, SIZE = Due.SIZE;
    private static final int LEAST = Integer.MIN_VALUE, GREATEST = Integer.MAX_VALUE;

    private SentencesTerms5() {
    }

    static void all() {
        sheets();
        noNumber();
        slots();
        slotsKeep();
        findingNothing();
        findingIndex();
        findingSize();
        findingKind();
        image();
        imageToTheLast();
        imageLeavesOut();
        imageAgain();
        yearsTold();
        interfaceSays("books", "book", "bookTold", "tie", "deal", "seed", "set");
        interfaceSays("boards by hand", "board", "told", "as", "turns", "drop", "judge");
        interfaceSays("the setting", "setting", "line", "allow", "clear", "cases", "few", "apart", "edge");
        interfaceSays("texts", "feed", "trim", "text", "textTold", "why");
        interfaceSays("years, walls, inches", "fullBy", "most", "wall", "inch", "shift");
        interfaceSays("sheets, slots", "sheet", "mark", "pour", "copy", "lay", "ask", "item", "rest");
        interfaceSays("rows, images", "tell", "check", "keep", "back", "count");
    }

    /** The source has the words ahead of these calls, and ahead of no other ones. */
    private static void interfaceSays(String words, String... calls) {
        Doc.says("Terms 5", "Ahead of the calls `" + String.join("`, `", calls) + "` the interface says: ---- " + words
                + ".");
        String source;
        try {
            source = Files.readString(Path.of("src/main/java/BookBoards.java"));
        } catch (IOException e) {
            throw new IllegalStateException("the source can't be read", e);
        }
        int from = source.indexOf("// ---- " + words + "\n");
        Due.isTrue(from >= 0, "the source does not say it");
        int to = source.indexOf("// ---- ", from + 1);
        Matcher m = Pattern.compile("(?m)^    public int (\\w+)\\(").matcher(source).region(Math.max(from, 0), to);
        StringBuilder found = new StringBuilder();
        while (m.find()) {
            found.append(m.group(1)).append(' ');
        }
        Due.isTrue(found.toString().equals(String.join(" ", calls) + " "), "the calls there are " + found);
    }

    private static void sheets() {
        Doc.says("Terms 5",
                "SHEETS 0 .. 3 are rows of shorts (sort 0) or floats (1; whole numbers), with 0 to 24 places, "
                + "or MISSING (at first).");
        BookBoards x = new BookBoards();
        for (int sheet = 0; sheet <= 3; sheet++) {
            Due.row(Due.of(NOTHING, NOTHING, NOTHING), x.mark(sheet, 0, 0), x.pour(sheet, 0), x.lay(0, 2, sheet));
        }
        Due.all(BAD, x.mark(-1, 0, 0), x.mark(4, 0, 0), x.sheet(-1, 0, 1), x.sheet(4, 0, 1), x.lay(0, 2, -1),
                x.lay(0, 2, 4));
        for (int sort = 0; sort <= 1; sort++) {
            for (int sheet = 0; sheet <= 3; sheet++) {
                Due.row(Due.of(0, INDEX, INDEX), x.sheet(sheet, sort, 0), x.mark(sheet, 0, 5), Due.at(x, sheet, 0));
                Due.row(Due.of(1, 1, INDEX), x.sheet(sheet, sort, 1), x.mark(sheet, 0, 5), x.mark(sheet, 1, 5));
                Due.row(Due.of(24, 1, INDEX), x.sheet(sheet, sort, 24), x.mark(sheet, 23, 5), x.mark(sheet, 24, 5));
                Due.row(Due.of(0, 0, 5, INDEX), Due.at(x, sheet, 0), Due.at(x, sheet, 22), Due.at(x, sheet, 23),
                        Due.at(x, sheet, 24));
                Due.row(Due.of(BAD, SIZE, 5), x.sheet(sheet, sort, 25), x.sheet(sheet, sort, -1), Due.at(x, sheet, 23));
            }
        }
        // Each by itself.
        x.mark(0, 0, 100);
        x.mark(3, 0, 103);
        Due.row(Due.of(100, 0, 0, 103), Due.at(x, 0, 0), Due.at(x, 1, 0), Due.at(x, 2, 0), Due.at(x, 3, 0));
        Due.all(BAD, x.sheet(0, -2, 1), x.sheet(0, 2, 1));
    }

    private static void noNumber() {
        Doc.says("Terms 5", "A place of floats may be NO NUMBER.");
        BookBoards x = new BookBoards();
        x.sheet(0, 1, 2);
        Due.row(Due.of(1, KIND, 0), x.mark(0, 0, NONE), Due.at(x, 0, 0), Due.at(x, 0, 1));
        Due.row(Due.of(1, 0, 1, KIND), x.mark(0, 0, 0), Due.at(x, 0, 0), x.mark(0, 1, NONE), Due.at(x, 0, 1));
        x.sheet(1, 0, 2);
        Due.row(Due.of(KIND, 0), x.mark(1, 0, NONE), Due.at(x, 1, 0));
        // The numbers next to NONE are none of floats, and shorts take their lowest bits.
        Due.row(Due.of(BAD, BAD), x.mark(0, 0, NONE - 1), x.mark(0, 0, NONE + 1));
        Due.row(Due.of(1, (short) (NONE + 1)), x.mark(1, 0, NONE + 1), Due.at(x, 1, 0));
        Due.row(Due.of(1, (short) (NONE - 1)), x.mark(1, 0, NONE - 1), Due.at(x, 1, 0));
        // A short whose lowest bits are those of NONE is a number.
        Due.row(Due.of(1, (short) NONE), x.mark(1, 0, NONE & 65535), Due.at(x, 1, 0));
    }

    private static void slots() {
        Doc.says("Terms 5", "SLOTS 0 .. 4 each hold nothing (at first),");
        BookBoards x = new BookBoards();
        for (int slot = 0; slot <= 4; slot++) {
            Due.all(NOTHING, x.ask(slot, 0), x.item(slot, 0), x.rest(slot, 1));
            Due.row(Due.of(0, slot), x.lay(slot, 3, 100 + slot), x.rest(slot, 100));
        }
        for (int slot = 0; slot <= 4; slot++) {
            Due.is(slot, x.rest(slot, 100));
        }
        Due.all(BAD, x.lay(-1, 3, 0), x.lay(5, 3, 0), x.rest(-1, 1), x.rest(5, 1), x.ask(-1, 0), x.ask(5, 0),
                x.item(-1, 0), x.item(5, 0));
    }

    private static void slotsKeep() {
        Doc.says("Terms 5",
                "a BOARD (as it is then, for good; BOOKS never change), a SHEET (a row of its own, as it was "
                + "then), or a number.");
        BookBoards x = new BookBoards();
        x.keep();
        x.book(2010, 0);
        x.book(2010, 0);
        x.board(3, 1, 7);
        Due.fill(x, 0, 1, 5, NONE, -99999);
        Due.row(Due.of(0, 0, 0), x.lay(0, 1, 0), x.lay(1, 2, 0), x.lay(2, 3, LEAST));
        // The board turns, goes, others come in its place, all its books go.
        x.turns(0, 5);
        Due.row(Due.of(12, 12, KIND), x.ask(0, 3), x.ask(0, 0), x.ask(0, 5));
        x.drop(0);
        Due.is(12, x.ask(0, 3));
        x.board(4, 0, 1);
        Due.is(12, x.ask(0, 3));
        x.back();
        Due.row(Due.of(12, 12, 0), x.ask(0, 3), x.ask(0, 1), x.count(0));
        // The sheet is marked, copied to, made anew, missing.
        x.mark(0, 0, 6);
        Due.row(Due.of(5, KIND, -99999, INDEX), x.item(1, 0), x.item(1, 1), x.item(1, 2), x.item(1, 3));
        x.copy(0, 0, 0, 1, 2);
        Due.row(Due.of(5, KIND, -99999), x.item(1, 0), x.item(1, 1), x.item(1, 2));
        x.sheet(0, 0, 24);
        Due.row(Due.of(5, KIND, -99999, INDEX), x.item(1, 0), x.item(1, 1), x.item(1, 2), x.item(1, 3));
        x.sheet(0, -1, 0);
        Due.row(Due.of(5, KIND, -99999), x.item(1, 0), x.item(1, 1), x.item(1, 2));
        Due.row(Due.of(-8, -8), x.rest(2, 10), x.rest(2, 10));
        // Two slots with the same thing hold one each.
        Due.fill(x, 2, 0, 1);
        x.lay(3, 2, 2);
        x.mark(2, 0, 2);
        x.lay(4, 2, 2);
        Due.row(Due.of(1, 2), x.item(3, 0), x.item(4, 0));
        // One thing in place of another.
        Due.row(Due.of(1, 3, NOTHING), x.lay(0, 3, 9), x.lay(0, 0, 0), x.rest(0, 4));
        Due.row(Due.of(2, 1, KIND), x.lay(1, 3, 9), x.rest(1, 4), x.item(1, 0));
    }

    private static void findingNothing() {
        Doc.says("Terms 5", "FINDINGS: NOTHING: a SHEET is MISSING, a SLOT holds nothing;");
        Twins.same(NOTHING, Twins.State.SOME, x -> x.mark(3, 0, 0), x -> x.pour(3, 0), x -> x.copy(3, 0, 0, 0, 0),
                x -> x.copy(0, 0, 3, 0, 0), x -> x.copy(3, 0, 3, 0, 0), x -> x.lay(0, 2, 3), x -> x.lay(3, 2, 3),
                x -> x.ask(0, 0), x -> x.item(0, 0), x -> x.rest(0, 1), x -> x.ask(4, 5), x -> x.item(4, 24),
                x -> x.rest(4, -1));
        // Missing once more, and nothing held once more.
        BookBoards x = new BookBoards();
        x.sheet(1, 0, 3);
        x.lay(2, 2, 1);
        x.sheet(1, -1, 3);
        x.lay(2, 0, 0);
        Due.all(NOTHING, x.mark(1, 0, 0), x.pour(1, 0), x.copy(1, 0, 1, 0, 0), x.lay(0, 2, 1), x.item(2, 0));
    }

    private static void findingIndex() {
        Doc.says("Terms 5", "INDEX: there is no such place;");
        Twins.same(INDEX, Twins.State.SOME, x -> x.mark(0, 4, 0), x -> x.mark(0, -1, 0), x -> x.mark(1, 3, 0),
                x -> x.mark(2, 0, 0), x -> x.mark(0, LEAST, 0), x -> x.mark(0, GREATEST, 0), x -> x.item(2, 3),
                x -> x.item(2, -1), x -> x.item(2, LEAST), x -> x.item(2, GREATEST), x -> x.copy(0, 0, 2, 0, 1),
                x -> x.copy(2, 0, 0, 0, 1), x -> x.copy(0, 4, 0, 0, 1), x -> x.copy(0, 0, 0, 4, 1));
    }

    private static void findingSize() {
        Doc.says("Terms 5", "SIZE: a number of places is below 0;");
        Twins.same(SIZE, Twins.State.SOME, x -> x.sheet(0, 0, -1), x -> x.sheet(3, 1, -1), x -> x.sheet(1, 1, LEAST));
        Due.is(0, new BookBoards().sheet(0, 0, 0));
    }

    private static void findingKind() {
        Doc.says("Terms 5", "KIND: it is none (of a KIND, a number, or another thing).");
        Twins.same(KIND, Twins.State.SOME, x -> x.as(0, 1), x -> x.as(1, 2), x -> x.ask(1, 1), x -> x.ask(2, 0),
                x -> x.ask(3, 0), x -> x.item(1, 0), x -> x.item(3, 0), x -> x.item(2, 1), x -> x.rest(1, 1),
                x -> x.rest(2, 1), x -> x.mark(0, 0, NONE), x -> x.copy(0, 0, 1, 0, 1), x -> x.copy(1, 0, 0, 0, 1),
                x -> x.copy(1, 0, 2, 0, 0));
    }

    private static void image() {
        Doc.says("Terms 5", "AN IMAGE keeps all but SHEETS, SLOTS, numbers that wait, THE TAPE;");
        BookBoards x = new BookBoards();
        Due.row(Due.of(NO, 0), x.back(), x.keep());
        // An empty one is one: all goes.
        x.book(2010, 1);
        x.tie(0, true);
        x.board(0, 0, 0);
        x.allow(20);
        Due.text(x, "cost 7");
        x.seed(9);
        x.set(0, 11);
        x.set(1, 3);
        x.set(2, 44);
        Due.is(0, x.back());
        Due.row(Due.of(0, 0, 0, 0, 0, 0, 0, 0, 0, 1), x.count(0), x.count(1), x.count(2), x.count(3), x.count(4),
                x.count(5), x.count(6), x.count(7), x.count(8), x.count(9));
        Due.row(Due.of(100, 2, 336), x.set(0, 100), x.set(1, 2), x.set(2, 336));
        // A full one is kept whole.
        BookBoards y = Twins.made(Twins.State.FULL);
        Due.is(24, y.keep());
        int sum = y.setting(-2);
        int z = y.count(9);
        y.tie(3, false);
        y.tie(0, true);
        y.set(0, 999);
        y.set(1, 9);
        y.set(2, 1);
        y.turns(11, 0);
        y.drop(0);
        y.clear();
        y.seed(z + 1);
        Due.is(24, y.back());
        Due.row(Due.of(24, 12, 14, 6, 2), y.count(0), y.count(1), y.count(2), y.count(3), y.count(5));
        Due.row(Due.of(z, sum, 5, 99, 0, 1), y.count(9), y.setting(-2), y.told(11, 0), y.told(11, 3), y.bookTold(0, 3),
                y.bookTold(3, 3));
        Due.row(Due.of(100, 2, 336), y.set(0, 1), y.set(1, 0), y.set(2, 1));
        Due.row(Due.of(FULL, FULL, NO), y.book(101, 0), y.board(0, 0, 0), y.allow(99));
        // Allowed heights come back, not only how many they were.
        BookBoards w = Due.withBooks(2010);
        w.allow(21);
        w.allow(50);
        w.keep();
        w.clear();
        w.allow(30);
        w.allow(40);
        Due.row(Due.of(30, 1, 21, NO, NO, 3), w.line(0, 3), w.back(), w.line(0, 3), w.allow(21), w.allow(50),
                w.allow(30));
    }

    /** The last book, board, allowed height and text of a full image are as they were, for what is now and by it. */
    private static void imageToTheLast() {
        Doc.says("Terms 5", "AN IMAGE keeps all but SHEETS, SLOTS, numbers that wait, THE TAPE;");
        BookBoards x = new BookBoards();
        for (int i = 0; i < 24; i++) {
            x.book(i < 23 ? 2001 : 9960, i < 23 ? 0 : 7);
        }
        for (int i = 0; i < 13; i++) {
            Due.text(x, "walk 1");
        }
        Due.text(x, "grow p*5");
        for (int i = 0; i < 12; i++) {
            x.board(0, 2323, i);
        }
        for (int i = 0; i < 6; i++) {
            x.allow(94 + i);
        }
        x.set(0, 60);
        x.keep();
        x.tie(23, true);
        x.turns(11, 5);
        x.clear();
        x.allow(98);
        // Two lines: 23 and 60 thick, by the image; now there is none.
        x.tell(1);
        x.tell(95);
        Due.row(Due.of(NONE, 0, 24), x.setting(-2), x.check(1), x.back());
        Due.row(Due.of(0, 99, 60, 7), x.bookTold(23, 3), x.bookTold(23, 0), x.bookTold(23, 1), x.bookTold(23, 2));
        Due.row(Due.of(0, 11, 13, 94 + 2 + 99 + 2), x.told(11, 0), x.told(11, 3), x.why(2), x.setting(-2));
        Due.row(Due.of(1, 95, 6), x.most(1, 0), x.most(1, 1), x.count(3));
    }

    private static void imageLeavesOut() {
        Doc.says("Terms 5", "AN IMAGE keeps all but SHEETS, SLOTS, numbers that wait, THE TAPE;");
        BookBoards x = new BookBoards();
        Due.fill(x, 0, 0, 1, 2);
        x.lay(0, 3, 17);
        x.tell(5);
        Due.tape(x, "cost ");
        x.keep();
        // Nothing of them comes back, and nothing of them goes.
        x.mark(0, 0, 9);
        x.sheet(1, 1, 1);
        x.lay(0, 3, 18);
        x.lay(1, 3, 4);
        x.tell(6);
        Due.tape(x, "h+n");
        x.back();
        Due.row(Due.of(9, 0, 8, 2, 8), Due.at(x, 0, 0), Due.at(x, 1, 0), x.rest(0, 10), x.count(7), x.count(8));
        Due.row(Due.of(4, 0, 2), x.rest(1, 10), x.text(), x.textTold(0, 1));
        x.sheet(0, -1, 0);
        x.lay(0, 0, 0);
        x.check(1);
        x.back();
        Due.row(Due.of(NOTHING, NOTHING, 0, 0), x.mark(0, 0, 0), x.rest(0, 1), x.count(7), x.count(8));
    }

    private static void imageAgain() {
        Doc.says("Terms 5", "all can become as it is (again and again).");
        BookBoards x = new BookBoards();
        x.book(2010, 0);
        x.board(1, 0, 5);
        x.keep();
        for (int i = 0; i < 5; i++) {
            x.turns(0, 4);
            x.tie(0, true);
            x.book(3010, 0);
            x.board(0, 1, 0);
            Due.row(Due.of(1, 1, 1, 0), x.back(), x.told(0, 0), x.count(1), x.count(5));
            Due.is(1, x.back());
        }
        // The later image counts, and what is made from an image is not bound to it.
        x.book(3010, 0);
        Due.is(2, x.keep());
        x.turns(0, 2);
        Due.row(Due.of(2, 1), x.back(), x.told(0, 0));
        x.turns(0, 2);
        x.keep();
        x.turns(0, 3);
        Due.row(Due.of(2, 2), x.back(), x.told(0, 0));
    }

    private static void yearsTold() {
        Doc.says("Terms 5", "THE YEARS TOLD: behind each of n YEARS, by THE IMAGE, the LINE that is MOST FULL, and how "
                + "thick it is.");
        BookBoards x = new BookBoards();
        x.book(2060, 0);
        x.book(2061, 1);
        Due.text(x, "grow !p");
        x.keep();
        // Behind year 1 both are 61 thick: the least one; none is told for the begin.
        Due.row(Due.of(1, 2, 3), x.tell(0), x.tell(61), x.tell(0));
        Due.row(Due.of(4, 0), x.tell(62), x.check(2));
        x.tell(1);
        x.tell(61);
        Due.is(1, x.check(1));
        // By the image, whatever is now.
        x.set(0, 999);
        x.book(2099, 0);
        Due.text(x, "grow 9");
        Due.row(Due.of(1, 2, 0), x.tell(0), x.tell(61), x.check(1));
        x.keep();
        Due.row(Due.of(1, 2, 0), x.tell(0), x.tell(220 + 18), x.check(1));
    }
}
