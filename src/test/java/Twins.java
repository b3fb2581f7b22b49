import java.util.ArrayList;
import java.util.HashMap;
import java.util.List;
import java.util.Map;

/** Objects that are made in the same way: a call that changes nothing on one of them leaves both alike. */
final class Twins {
    interface Call {
        int on(BookBoards x);
    }

    /** What an object is like when the call comes. */
    enum State { BARE, SOME, FULL, TIGHT }

    /** An object is used for 512 calls, so each part of what it tells is asked of an object of its own. */
    private static final int PARTS = 9;
    private static final Map<String, List<Integer>> TOLD = new HashMap<>();

    private Twins() {
    }

    /** The call answers what is due, and all that the object tells is as without it. */
    static void same(int want, State state, Call call) {
        Due.is(want, call.on(made(state)));
        for (int part = 0; part < PARTS; part++) {
            int of = part;
            List<Integer> due = TOLD.computeIfAbsent(state + " " + part, key -> tells(made(state), of));
            BookBoards x = made(state);
            call.on(x);
            Due.isTrue(tells(x, part).equals(due), "the call changes part " + part + " of an object " + state);
        }
    }

    static void same(int want, State state, Call... calls) {
        for (Call call : calls) {
            same(want, state, call);
        }
    }

    static BookBoards made(State state) {
        switch (state) {
            case BARE:
                return new BookBoards();
            case SOME:
                return some();
            case FULL:
                return full();
            default:
                BookBoards x = some();
                x.set(0, 9);
                return x;
        }
    }

    /** Five books, two boards, two allowed heights, three texts, an image of four books, and more. */
    private static BookBoards some() {
        BookBoards x = new BookBoards();
        x.book(2010, 0);
        x.book(3012, 1);
        x.book(2015, 0);
        x.book(2830, 2);
        x.tie(1, true);
        x.set(0, 60);
        x.set(1, 3);
        x.set(2, 90);
        x.board(4, 1, 7);
        x.board(3, 203, 9);
        x.allow(31);
        x.allow(40);
        twelve(x, "cost h*2+n  ");
        x.text();
        twelve(x, "walk h-p    ");
        x.text();
        twelve(x, "grow p+1    ");
        x.text();
        x.seed(77);
        sheets(x, 4, 3);
        x.lay(1, 1, 0);
        x.lay(2, 2, 1);
        x.lay(3, 3, -17);
        x.keep();
        x.book(2505, 3);
        x.seed(78);
        x.turns(0, 5);
        // Lines of 37 and 30, the first with parts 0 and 1, the second with part 2, by the image.
        x.tell(0);
        x.tell(40);
        x.tell(9);
        twelve(x, "cost h+n*l-4");
        return x;
    }

    /** Books, boards, allowed heights, texts, numbers that wait and the tape are as many as there can be. */
    private static BookBoards full() {
        BookBoards x = new BookBoards();
        x.book(2010, 0);
        x.book(3020, 1);
        twelve(x, "grow p*2+1  ");
        x.text();
        x.keep();
        for (int i = 0; i < 22; i++) {
            x.book(100 * (10 + 3 * i) + 5 + i % 4, i % 8);
        }
        x.tie(3, true);
        x.tie(10, true);
        for (int i = 0; i < 12; i++) {
            x.board(i % 6, 101 * i + 1, 9 * i);
        }
        for (int height : new int[] {20, 40, 60, 80, 90, 99}) {
            x.allow(height);
        }
        for (int i = 1; i < 14; i++) {
            twelve(x, new String[] {"cost h*2+n+l", "walk h+p*3  ", "grow p+y/9  "}[i % 3]);
            x.text();
        }
        for (int year = 1; year <= 30; year++) {
            x.tell(0);
            x.tell(30 + 4 * year);
        }
        twelve(x, "cost h  +n*l");
        for (int i = 0; i < 7; i++) {
            twelve(x, "-5+n*3+l/2*h");
        }
        sheets(x, 24, 24);
        x.lay(0, 1, 11);
        x.lay(1, 2, 0);
        x.lay(2, 2, 1);
        x.lay(3, 3, Integer.MIN_VALUE);
        x.lay(4, 3, 5);
        return x;
    }

    /** Shorts, floats, shorts without a place; sheet 3 is missing. */
    private static void sheets(BookBoards x, int shorts, int floats) {
        x.sheet(0, 0, shorts);
        x.mark(0, 0, 2010);
        x.mark(0, 1, 9999);
        x.mark(0, 3, -7);
        x.sheet(1, 1, floats);
        x.mark(1, 0, 2520);
        x.mark(1, 1, Due.NONE);
        x.mark(1, 2, 99999);
        x.sheet(2, 0, 0);
    }

    static void twelve(BookBoards x, String text) {
        int[] bytes = Due.bytes(text);
        x.feed(Due.four(bytes, 0), Due.four(bytes, 4), Due.four(bytes, 8));
    }

    private static List<Integer> tells(BookBoards x, int part) {
        List<Integer> row = new ArrayList<>();
        switch (part) {
            case 0:
                books(x, row);
                break;
            case 1:
                boards(x, row);
                break;
            case 2:
                setting(x, row);
                break;
            case 3:
                texts(x, row);
                break;
            case 4:
                tape(x, row);
                break;
            case 5:
                sheetsAndSlots(x, row);
                break;
            case 6:
                row.add(x.check(30));
                row.add(x.count(7));
                break;
            case 7:
                row.add(x.back());
                books(x, row);
                break;
            default:
                row.add(x.back());
                boards(x, row);
                setting(x, row);
                break;
        }
        return row;
    }

    private static void books(BookBoards x, List<Integer> row) {
        for (int what = 0; what <= 9; what++) {
            row.add(x.count(what));
        }
        for (int book = 0; book < x.count(0); book++) {
            for (int what = 0; what <= 4; what++) {
                row.add(x.bookTold(book, what));
            }
        }
    }

    private static void boards(BookBoards x, List<Integer> row) {
        for (int board = 0; board < x.count(1); board++) {
            for (int what = 0; what <= 7; what++) {
                row.add(x.told(board, what));
            }
        }
        for (int what = 0; what <= 2; what++) {
            row.add(x.judge(what));
        }
    }

    private static void setting(BookBoards x, List<Integer> row) {
        int lines = x.setting(-1);
        row.add(lines);
        row.add(x.setting(-2));
        for (int line = 0; line < lines; line++) {
            row.add(x.setting(line));
            row.add(x.line(line, 3));
            row.add(x.line(line, 4));
        }
        row.add(x.cases(0));
        row.add(x.cases(1));
        row.add(x.few(2, -1));
        row.add(x.apart(25));
        row.add(x.edge());
        row.add(x.wall(2, 99));
        row.add(x.clear());
        row.add(x.set(0, 1));
        row.add(x.set(1, 0));
        row.add(x.set(2, 1));
    }

    private static void texts(BookBoards x, List<Integer> row) {
        for (int text = 0; text < x.count(2); text++) {
            row.add(x.textTold(text, 0));
            row.add(x.textTold(text, 1));
        }
        for (int key = 0; key <= 2; key++) {
            row.add(x.why(key));
        }
        row.add(x.fullBy());
        row.add(x.most(60, 0));
        row.add(x.most(60, 1));
    }

    /** What the tape says is seen by a text of it, where there is room for one: by the image. */
    private static void tape(BookBoards x, List<Integer> row) {
        row.add(x.count(8));
        row.add(x.back());
        row.add(x.text());
        row.add(x.textTold(x.count(2) - 1, 1));
        row.add(x.setting(-2));
        row.add(x.line(0, 4));
    }

    private static void sheetsAndSlots(BookBoards x, List<Integer> row) {
        for (int slot = 0; slot <= 4; slot++) {
            row.add(x.ask(slot, 0));
            row.add(x.rest(slot, 1000003));
            for (int place = 0; place <= 24; place++) {
                row.add(x.item(slot, place));
            }
        }
        for (int sheet = 0; sheet <= 3; sheet++) {
            row.add(x.lay(4, 2, sheet));
            for (int place = 0; place <= 24; place++) {
                row.add(x.item(4, place));
            }
            row.add(x.lay(4, 0, 0));
        }
    }
}
