import java.util.Arrays;

/**
 * Books that stand in order, boards for them by hand, and the settings, cases, years and walls that
 * follow from them. ../shared/DOC.md says what each call answers and changes.
 */
public final class BookBoards {
    public static final int BAD = -1000000001, NO = -1000000002, FULL = -1000000003, NONE = -1000000005,
            NOTHING = -1000000011, KIND = -1000000012, INDEX = -1000000013, SIZE = -1000000014;

    private static final int MOST_BOOKS = 24, MOST_BOARDS = 12, MOST_ALLOWED = 6, MOST_TEXTS = 14, MOST_BYTES = 96,
            MOST_WAITING = 60, MOST_YEARS = 60, MOST_TOLD_YEARS = 30, MOST_FEW = 3, MOST_PLACES = 24, MOST_WALL = 24;
    /** More than there are pairs of the 23 heights below the greatest one. */
    private static final int MOST_PICKS = 300;
    private static final int PARTS = 8, SHEETS = 4, SLOTS = 5, MOST_HEIGHT = 99, MOST_WIDTH = 999;

    private static final int PLAIN = 0, RUN = 1, APART = 2, DEEP = 3, LYING = 4, TOLD = 5;
    /** The kind that each kind of board is under. */
    private static final int[] ABOVE = {-1, PLAIN, PLAIN, RUN, APART, PLAIN};

    private static final int COST = 0, WALK = 1, GROW = 2;
    private static final int MISSING = -1, SHORTS = 0, FLOATS = 1, MOST_FLOAT = 99999;
    private static final int A_BOARD = 1, A_SHEET = 2, A_NUMBER = 3;

    private final Stock now = new Stock();
    private final Stock image = new Stock();
    private boolean hasImage;
    private final Plan plan = new Plan();
    private final Years years = new Years();
    private final Reader reader = new Reader();
    private final Tape tape = reader.tape;
    private final Sheet[] sheets = new Sheet[SHEETS];
    private final Slot[] slots = new Slot[SLOTS];
    private final int[] waiting = new int[MOST_WAITING];
    private int waitingMany;
    /** Rows for few() and shift(), made once because what a call makes is never given back. */
    private final int[] unlike = new int[MOST_BOOKS];
    private final int[] pick = new int[MOST_FEW];
    private final int[] chosen = new int[MOST_FEW];
    private final int[] lineBefore = new int[MOST_BOOKS];

    public BookBoards() {
        for (int i = 0; i < SHEETS; i++) {
            sheets[i] = new Sheet();
        }
        for (int i = 0; i < SLOTS; i++) {
            slots[i] = new Slot();
        }
    }

    // ---- books

    public int book(int size, int part) {
        if (!isSize(size) || !isWithin(part, 0, PARTS - 1)) {
            return BAD;
        }
        if (now.books >= MOST_BOOKS) {
            return FULL;
        }
        return now.addBook(size / 100, size % 100, part);
    }

    public int bookTold(int book, int what) {
        if (!now.hasBook(book)) {
            return BAD;
        }
        switch (what) {
            case 0:
                return now.height[book];
            case 1:
                return now.thick[book];
            case 2:
                return now.part[book];
            case 3:
                return now.tied[book] ? 1 : 0;
            case 4:
                return plan.load(now).settle() ? plan.lineOf(book) : NONE;
            default:
                return BAD;
        }
    }

    public int tie(int book, boolean is) {
        if (!now.hasBook(book)) {
            return BAD;
        }
        boolean isNew = now.tied[book] != is;
        now.tied[book] = is;
        return isNew ? 1 : 0;
    }

    public int deal(int n) {
        if (!isWithin(n, 1, MOST_BOOKS)) {
            return BAD;
        }
        int many = Math.min(n, MOST_BOOKS - now.books);
        for (int i = 0; i < many; i++) {
            int height = 20 + now.draw() % 30;
            int thick = 1 + now.draw() % 20;
            int part = now.draw() % PARTS;
            now.addBook(height, thick, part);
        }
        return many;
    }

    public int seed(int v) {
        int was = now.z;
        now.z = v;
        return was;
    }

    public int set(int what, int v) {
        int was;
        if (what == 0 && isWithin(v, 1, MOST_WIDTH)) {
            was = now.width;
            now.width = v;
        } else if (what == 1 && isWithin(v, 0, 9)) {
            was = now.plank;
            now.plank = v;
        } else if (what == 2 && isWithin(v, 1, 999)) {
            was = now.caseHeight;
            now.caseHeight = v;
        } else {
            was = BAD;
        }
        return was;
    }

    // ---- boards by hand

    public int board(int kind, int books, int h) {
        if (!isKind(kind) || books < 0 || !isWithin(h, 0, 99)) {
            return BAD;
        }
        int first = books / 100;
        int last = books % 100;
        if (first > last || !now.hasBook(last)) {
            return BAD;
        }
        if (now.boardsMany >= MOST_BOARDS) {
            return FULL;
        }
        return now.addBoard(kind, first, last, h);
    }

    public int told(int board, int what) {
        if (!now.hasBoard(board)) {
            return BAD;
        }
        Board b = now.boards[board];
        switch (what) {
            case 0:
                return b.kind;
            case 1:
                return b.first;
            case 2:
                return b.last;
            case 3:
                return b.h;
            case 4:
                return b.wants(now);
            case 5:
                return b.takes(now);
            case 6:
                return b.worth();
            case 7:
                return b.isGood(now) ? 1 : 0;
            default:
                return BAD;
        }
    }

    public int as(int board, int kind) {
        if (!now.hasBoard(board) || !isKind(kind)) {
            return BAD;
        }
        Board b = now.boards[board];
        return isUnder(b.kind, kind) ? b.h : KIND;
    }

    public int turns(int board, int kind) {
        if (!now.hasBoard(board) || !isKind(kind)) {
            return BAD;
        }
        int was = now.boards[board].kind;
        now.boards[board].kind = kind;
        return was;
    }

    public int drop(int board) {
        if (!now.hasBoard(board)) {
            return BAD;
        }
        return now.dropBoard(board);
    }

    public int judge(int what) {
        switch (what) {
            case 0:
                return now.firstBoardNotGood();
            case 1:
                return now.firstBookAmiss();
            case 2:
                return now.heightOfBoards();
            default:
                return BAD;
        }
    }

    // ---- the setting

    public int setting(int what) {
        if (what < -2) {
            return BAD;
        }
        if (!plan.load(now).settle()) {
            return NONE;
        }
        if (what == -2) {
            return plan.least[0];
        }
        if (what == -1) {
            return plan.lines;
        }
        return what < plan.lines ? plan.first[what] : NONE;
    }

    public int line(int line, int what) {
        if (line < 0 || !isWithin(what, 0, 4)) {
            return BAD;
        }
        if (!plan.load(now).settle() || line >= plan.lines) {
            return NONE;
        }
        switch (what) {
            case 0:
                return plan.booksOf(line);
            case 1:
                return plan.thicknessOf(line);
            case 2:
                return plan.tallOf(line);
            case 3:
                return plan.setFor(plan.tallOf(line));
            default:
                return plan.priceOf(plan.setFor(plan.tallOf(line)), plan.booksOf(line));
        }
    }

    public int allow(int height) {
        if (!isWithin(height, 1, MOST_HEIGHT)) {
            return BAD;
        }
        if (now.isAllowed(height)) {
            return NO;
        }
        if (now.allowedMany >= MOST_ALLOWED) {
            return FULL;
        }
        return now.addAllowed(height);
    }

    public int clear() {
        int were = now.allowedMany;
        now.allowedMany = 0;
        return were;
    }

    public int cases(int what) {
        if (!isWithin(what, 0, 1)) {
            return BAD;
        }
        plan.load(now);
        int filled = plan.leastFilled();
        if (filled < 0) {
            return NONE;
        }
        return what == 0 ? filled / Plan.A_CASE : filled % Plan.A_CASE;
    }

    public int few(int k, int what) {
        if (!isWithin(k, 1, MOST_FEW) || what < -1 || what >= k) {
            return BAD;
        }
        int prices = chooseFew(k);
        if (prices < 0 || what < 0) {
            return prices;
        }
        return chosen[what];
    }

    /** The prices by the best k heights, which chosen then holds, or NONE. */
    private int chooseFew(int k) {
        int many = now.unlikeHeights(unlike);
        if (many < k) {
            return NONE;
        }
        plan.load(now);
        for (int i = 0; i < k; i++) {
            pick[i] = i;
        }
        int best = NONE;
        boolean isMore = true;
        for (int i = 0; i < MOST_PICKS && isMore; i++) {
            usePick(k, many);
            int prices = plan.leastPrices();
            if (prices >= 0 && (best < 0 || prices < best)) {
                best = prices;
                System.arraycopy(plan.heights, 0, chosen, 0, k);
            }
            isMore = nextPick(k - 1, many - 1);
        }
        return best;
    }

    /** Only sets with the greatest height have a setting, so just the others are picked. */
    private void usePick(int k, int many) {
        for (int i = 0; i < k - 1; i++) {
            plan.heights[i] = unlike[pick[i]];
        }
        plan.heights[k - 1] = unlike[many - 1];
        plan.heightsMany = k;
    }

    /** Goes on to the next rising pick of so many out of the numbers below the limit, if there is one. */
    private boolean nextPick(int many, int limit) {
        for (int i = many - 1; i >= 0; i--) {
            if (pick[i] < limit - (many - i)) {
                pick[i]++;
                for (int j = i + 1; j < many; j++) {
                    pick[j] = pick[j - 1] + 1;
                }
                return true;
            }
        }
        return false;
    }

    public int apart(int t) {
        if (!isWithin(t, 1, 100)) {
            return BAD;
        }
        plan.load(now);
        return pricesApart(t);
    }

    private int pricesApart(int t) {
        plan.keepOnly(now, t, true);
        int tall = plan.leastPrices();
        plan.keepOnly(now, t, false);
        int others = plan.leastPrices();
        return tall < 0 || others < 0 ? NONE : tall + others + now.walks(t);
    }

    public int edge() {
        plan.load(now);
        int edge = 100;
        int best = pricesApart(edge);
        for (int t = 99; t >= 1; t--) {
            // Where no book has this height, all is as with the t ahead of it, which counts then.
            if (now.hasHeight(t)) {
                int prices = pricesApart(t);
                if (prices >= 0 && (best < 0 || prices < best)) {
                    best = prices;
                    edge = t;
                }
            }
        }
        return best < 0 ? NONE : edge;
    }

    // ---- texts

    public int feed(int a, int b, int c) {
        if (tape.length > MOST_BYTES - 12) {
            return FULL;
        }
        tape.add(a);
        tape.add(b);
        tape.add(c);
        return tape.length;
    }

    public int trim(int n) {
        if (!isWithin(n, 0, tape.length)) {
            return BAD;
        }
        tape.length = n;
        return n;
    }

    public int text() {
        Law law = reader.read();
        tape.length = 0;
        if (law == null) {
            return -100 - tape.start;
        }
        if (now.textsMany >= MOST_TEXTS) {
            return FULL;
        }
        return now.addText(law);
    }

    public int textTold(int text, int what) {
        Law law = now.textAt(text);
        if (law == null || !isWithin(what, 0, 1)) {
            return BAD;
        }
        return what == 0 ? law.key : law.operands;
    }

    public int why(int key) {
        if (!isWithin(key, COST, GROW)) {
            return BAD;
        }
        return now.lastTextOf(key);
    }

    // ---- years, walls, inches

    public int fullBy() {
        if (!plan.load(now).settle() || plan.lines == 0) {
            return NONE;
        }
        years.begin(now, plan);
        for (int year = 1; year <= MOST_YEARS; year++) {
            years.pass(year);
            if (years.thickness() > now.width) {
                return year;
            }
        }
        return NONE;
    }

    public int most(int n, int what) {
        if (!isWithin(n, 0, MOST_YEARS) || !isWithin(what, 0, 1)) {
            return BAD;
        }
        if (!plan.load(now).settle() || plan.lines == 0) {
            return NONE;
        }
        years.begin(now, plan);
        for (int year = 1; year <= n; year++) {
            years.pass(year);
        }
        return what == 0 ? years.thickest() : years.thickness();
    }

    public int wall(int m, int h) {
        if (!isWithin(m, 0, MOST_WALL) || !isWithin(h, 1, MOST_HEIGHT)) {
            return BAD;
        }
        int begun = 0;
        int room = 0;
        for (int i = 0; i < now.books; i++) {
            if (now.thick[i] > room) {
                begun++;
                room = now.width;
            }
            if (begun > m || now.height[i] > h || now.thick[i] > room) {
                return i;
            }
            room -= now.thick[i];
        }
        return now.books;
    }

    public int inch(int v) {
        if (!isWithin(v, 1 - now.width, MOST_WIDTH - now.width)) {
            return BAD;
        }
        plan.load(now);
        int asItIs = plan.leastPrices();
        plan.width += v;
        int byMore = plan.leastPrices();
        return asItIs < 0 || byMore < 0 ? NONE : byMore - asItIs;
    }

    public int shift(int place, int size) {
        if (!isWithin(place, 0, now.books) || !isSize(size)) {
            return BAD;
        }
        if (now.books >= MOST_BOOKS) {
            return FULL;
        }
        if (!plan.load(now).settle()) {
            return NONE;
        }
        for (int i = 0; i < now.books; i++) {
            lineBefore[i] = plan.lineOf(i);
        }
        plan.insert(place, size / 100, size % 100);
        return plan.settle() ? moved(place) : NONE;
    }

    /** How many books have another line in plan than before one came to the place. */
    private int moved(int place) {
        int many = 0;
        for (int i = 0; i < now.books; i++) {
            int then = i < place ? i : i + 1;
            if (plan.lineOf(then) != lineBefore[i]) {
                many++;
            }
        }
        return many;
    }

    // ---- sheets, slots

    public int sheet(int sheet, int sort, int n) {
        if (!isSheet(sheet) || !isWithin(sort, MISSING, FLOATS)) {
            return BAD;
        }
        int places = sort == MISSING ? 0 : n;
        if (places > MOST_PLACES) {
            return BAD;
        }
        if (places < 0) {
            return SIZE;
        }
        sheets[sheet].become(sort, places);
        return places;
    }

    public int mark(int sheet, int place, int v) {
        if (!isSheet(sheet)) {
            return BAD;
        }
        Sheet s = sheets[sheet];
        if (s.sort == MISSING) {
            return NOTHING;
        }
        if (!s.hasPlaces(place, 1)) {
            return INDEX;
        }
        if (s.sort == SHORTS && v == NONE) {
            return KIND;
        }
        if (s.sort == FLOATS && v != NONE && !isWithin(v, -MOST_FLOAT, MOST_FLOAT)) {
            return BAD;
        }
        s.row[place] = s.sort == SHORTS ? (short) v : v;
        return 1;
    }

    public int pour(int sheet, int part) {
        if (!isSheet(sheet) || !isWithin(part, 0, PARTS - 1)) {
            return BAD;
        }
        Sheet s = sheets[sheet];
        if (s.sort == MISSING) {
            return NOTHING;
        }
        int many = s.sizes();
        if (many > MOST_BOOKS - now.books) {
            return FULL;
        }
        for (int i = 0; i < many; i++) {
            now.addBook(s.row[i] / 100, s.row[i] % 100, part);
        }
        return many;
    }

    public int copy(int from, int place, int to, int at, int many) {
        if (!isSheet(from) || !isSheet(to)) {
            return BAD;
        }
        Sheet source = sheets[from];
        Sheet target = sheets[to];
        if (source.sort == MISSING || target.sort == MISSING) {
            return NOTHING;
        }
        if (source.sort != target.sort) {
            return KIND;
        }
        if (!source.hasPlaces(place, many) || !target.hasPlaces(at, many)) {
            return INDEX;
        }
        System.arraycopy(source.row, place, target.row, at, many);
        return many;
    }

    public int lay(int slot, int thing, int k) {
        if (!isSlot(slot) || !isWithin(thing, 0, A_NUMBER)) {
            return BAD;
        }
        if ((thing == A_BOARD && !now.hasBoard(k)) || (thing == A_SHEET && !isSheet(k))) {
            return BAD;
        }
        if (thing == A_SHEET && sheets[k].sort == MISSING) {
            return NOTHING;
        }
        Slot s = slots[slot];
        int held = s.thing;
        s.thing = thing;
        if (thing == A_BOARD) {
            s.board.become(now.boards[k]);
        } else if (thing == A_SHEET) {
            s.sheet.becomeAs(sheets[k]);
        } else if (thing == A_NUMBER) {
            s.number = k;
        }
        return held;
    }

    public int ask(int slot, int kind) {
        if (!isSlot(slot) || !isKind(kind)) {
            return BAD;
        }
        int finding = slots[slot].finding(A_BOARD);
        if (finding != 0) {
            return finding;
        }
        Board b = slots[slot].board;
        return isUnder(b.kind, kind) ? b.worth() : KIND;
    }

    public int item(int slot, int place) {
        if (!isSlot(slot)) {
            return BAD;
        }
        int finding = slots[slot].finding(A_SHEET);
        if (finding != 0) {
            return finding;
        }
        Sheet s = slots[slot].sheet;
        if (!s.hasPlaces(place, 1)) {
            return INDEX;
        }
        return s.row[place] == NONE ? KIND : s.row[place];
    }

    public int rest(int slot, int n) {
        if (!isSlot(slot)) {
            return BAD;
        }
        int finding = slots[slot].finding(A_NUMBER);
        if (finding != 0) {
            return finding;
        }
        return n == 0 ? NO : slots[slot].number % n;
    }

    // ---- rows, images

    public int tell(int v) {
        if (waitingMany >= MOST_WAITING) {
            return FULL;
        }
        waiting[waitingMany] = v;
        waitingMany++;
        return waitingMany;
    }

    public int check(int n) {
        int many = waitingMany;
        waitingMany = 0;
        if (!isWithin(n, 1, MOST_TOLD_YEARS)) {
            return BAD;
        }
        if (!hasImage || !plan.load(image).settle() || plan.lines == 0) {
            return NO;
        }
        int right = rightOnes(n, many);
        return right == 2 * n && right == many ? 0 : 1 + right;
    }

    /** How many of the numbers that waited, from the first on, tell the years of the image in plan. */
    private int rightOnes(int n, int many) {
        years.begin(image, plan);
        int right = 0;
        for (int year = 1; year <= n; year++) {
            years.pass(year);
            if (right >= many || waiting[right] != years.thickest()) {
                return right;
            }
            right++;
            if (right >= many || waiting[right] != years.thickness()) {
                return right;
            }
            right++;
        }
        return right;
    }

    public int keep() {
        image.become(now);
        hasImage = true;
        return now.books;
    }

    public int back() {
        if (!hasImage) {
            return NO;
        }
        now.become(image);
        return now.books;
    }

    public int count(int what) {
        switch (what) {
            case 0:
                return now.books;
            case 1:
                return now.boardsMany;
            case 2:
                return now.textsMany;
            case 3:
                return now.allowedMany;
            case 4:
                return now.thickness(0, now.books - 1);
            case 5:
                return now.tiedBooks();
            case 6:
                return now.unlikeHeights(unlike);
            case 7:
                return waitingMany;
            case 8:
                return tape.length;
            case 9:
                return now.z;
            default:
                return BAD;
        }
    }

    // ---- what numbers may be

    private static boolean isWithin(int v, int least, int most) {
        return v >= least && v <= most;
    }

    private static int held(int v, int least, int most) {
        return Math.max(least, Math.min(most, v));
    }

    /** Whether it is 100 times a height, and a thickness. */
    private static boolean isSize(int v) {
        return isWithin(v, 101, 9999) && v % 100 != 0;
    }

    private static boolean isKind(int kind) {
        return isWithin(kind, PLAIN, TOLD);
    }

    private static boolean isSheet(int sheet) {
        return isWithin(sheet, 0, SHEETS - 1);
    }

    private static boolean isSlot(int slot) {
        return isWithin(slot, 0, SLOTS - 1);
    }

    /** Whether a kind is the other one, or under it. */
    private static boolean isUnder(int kind, int other) {
        int at = kind;
        for (int i = 0; i < ABOVE.length && isKind(at); i++) {
            if (at == other) {
                return true;
            }
            at = ABOVE[at];
        }
        return false;
    }

    /** All that an image keeps. */
    private static final class Stock {
        int books;
        final int[] height = new int[MOST_BOOKS];
        final int[] thick = new int[MOST_BOOKS];
        final int[] part = new int[MOST_BOOKS];
        final boolean[] tied = new boolean[MOST_BOOKS];
        int width = 100;
        int plank = 2;
        int caseHeight = 336;
        int z = 1;
        int boardsMany;
        final Board[] boards = new Board[MOST_BOARDS];
        int allowedMany;
        final int[] allowed = new int[MOST_ALLOWED];
        int textsMany;
        final Law[] texts = new Law[MOST_TEXTS];

        Stock() {
            for (int i = 0; i < MOST_BOARDS; i++) {
                boards[i] = new Board();
            }
        }

        void become(Stock other) {
            books = other.books;
            for (int i = 0; i < MOST_BOOKS; i++) {
                height[i] = other.height[i];
                thick[i] = other.thick[i];
                part[i] = other.part[i];
                tied[i] = other.tied[i];
            }
            width = other.width;
            plank = other.plank;
            caseHeight = other.caseHeight;
            z = other.z;
            boardsMany = other.boardsMany;
            for (int i = 0; i < MOST_BOARDS; i++) {
                boards[i].become(other.boards[i]);
            }
            allowedMany = other.allowedMany;
            System.arraycopy(other.allowed, 0, allowed, 0, MOST_ALLOWED);
            textsMany = other.textsMany;
            // Laws never change, so both may hold the same ones.
            for (int i = 0; i < MOST_TEXTS; i++) {
                texts[i] = other.texts[i];
            }
        }

        boolean hasBook(int book) {
            return isWithin(book, 0, books - 1);
        }

        int addBook(int itsHeight, int itsThickness, int itsPart) {
            if (books >= MOST_BOOKS) {
                return FULL;
            }
            height[books] = itsHeight;
            thick[books] = itsThickness;
            part[books] = itsPart;
            tied[books] = false;
            books++;
            return books - 1;
        }

        int draw() {
            z = z * 1103515245 + 12345;
            return z >>> 8;
        }

        int thickness(int from, int to) {
            int sum = 0;
            for (int i = Math.max(from, 0); i <= to && i < books; i++) {
                sum += thick[i];
            }
            return sum;
        }

        int tallest(int from, int to) {
            int most = 0;
            for (int i = Math.max(from, 0); i <= to && i < books; i++) {
                most = Math.max(most, height[i]);
            }
            return most;
        }

        int tiedBooks() {
            int many = 0;
            for (int i = 0; i < books; i++) {
                many += tied[i] ? 1 : 0;
            }
            return many;
        }

        boolean hasHeight(int h) {
            for (int i = 0; i < books; i++) {
                if (height[i] == h) {
                    return true;
                }
            }
            return false;
        }

        /** Puts the heights that there are into a row with room for all books, rising: how many. */
        int unlikeHeights(int[] row) {
            int many = 0;
            for (int h = 1; h <= MOST_HEIGHT && many < row.length; h++) {
                if (hasHeight(h)) {
                    row[many] = h;
                    many++;
                }
            }
            return many;
        }

        /** What it costs that the books of a height t or more stand apart, beside their lines. */
        int walks(int t) {
            Law walk = lawOf(WALK);
            int sum = 0;
            for (int i = 0; i < books; i++) {
                if (height[i] >= t) {
                    sum += walk == null ? 5 : held(walk.gives(height[i], part[i], 0), 0, 999);
                }
            }
            return sum;
        }

        boolean hasBoard(int board) {
            return isWithin(board, 0, boardsMany - 1);
        }

        int addBoard(int kind, int first, int last, int h) {
            if (boardsMany >= MOST_BOARDS) {
                return FULL;
            }
            Board b = boards[boardsMany];
            b.kind = kind;
            b.first = first;
            b.last = last;
            b.h = h;
            boardsMany++;
            return boardsMany - 1;
        }

        int dropBoard(int board) {
            for (int i = Math.max(board, 0); i + 1 < boardsMany; i++) {
                boards[i].become(boards[i + 1]);
            }
            boardsMany--;
            return boardsMany;
        }

        int firstBoardNotGood() {
            for (int i = 0; i < boardsMany; i++) {
                if (!boards[i].isGood(this)) {
                    return i;
                }
            }
            return NONE;
        }

        int firstBookAmiss() {
            for (int i = 0; i < books; i++) {
                if (boardsWith(i) != 1) {
                    return i;
                }
            }
            return NONE;
        }

        int boardsWith(int book) {
            int many = 0;
            for (int i = 0; i < boardsMany; i++) {
                many += isWithin(book, boards[i].first, boards[i].last) ? 1 : 0;
            }
            return many;
        }

        int heightOfBoards() {
            int sum = 0;
            for (int i = 0; i < boardsMany; i++) {
                sum += boards[i].wants(this) + plank;
            }
            return sum;
        }

        boolean isAllowed(int h) {
            for (int i = 0; i < allowedMany; i++) {
                if (allowed[i] == h) {
                    return true;
                }
            }
            return false;
        }

        int addAllowed(int h) {
            if (allowedMany >= MOST_ALLOWED) {
                return FULL;
            }
            allowed[allowedMany] = h;
            allowedMany++;
            return allowedMany;
        }

        int addText(Law law) {
            if (textsMany >= MOST_TEXTS) {
                return FULL;
            }
            texts[textsMany] = law;
            textsMany++;
            return textsMany - 1;
        }

        Law textAt(int text) {
            return isWithin(text, 0, textsMany - 1) ? texts[text] : null;
        }

        int lastTextOf(int key) {
            for (int i = textsMany - 1; i >= 0; i--) {
                if (texts[i] != null && texts[i].key == key) {
                    return i;
                }
            }
            return NONE;
        }

        Law lawOf(int key) {
            return textAt(lastTextOf(key));
        }
    }

    /** A board told by hand; its books are those of the stock that it is asked about. */
    private static final class Board {
        int kind;
        int first;
        int last;
        int h;

        void become(Board other) {
            kind = other.kind;
            first = other.first;
            last = other.last;
            h = other.h;
        }

        int wants(Stock stock) {
            switch (kind) {
                case RUN:
                case DEEP:
                    return stock.tallest(first, last) + 1;
                case APART:
                    return stock.tallest(first, last) + 2;
                case LYING:
                    return stock.thickness(first, last);
                case TOLD:
                    return h;
                default:
                    return stock.tallest(first, last);
            }
        }

        int takes(Stock stock) {
            switch (kind) {
                case DEEP:
                    return (stock.thickness(first, last) + 1) / 2;
                case LYING:
                    return stock.tallest(first, last);
                default:
                    return stock.thickness(first, last);
            }
        }

        int worth() {
            int many = last - first + 1;
            switch (kind) {
                case RUN:
                    return many + h;
                case DEEP:
                    return many + h + 3;
                case LYING:
                    return 2 * many;
                case TOLD:
                    return h - 1;
                default:
                    return many;
            }
        }

        boolean isGood(Stock stock) {
            boolean isTiedOn = stock.hasBook(last + 1) && stock.tied[last];
            boolean isTiedAhead = stock.hasBook(first - 1) && stock.tied[first - 1];
            return takes(stock) <= stock.width && !isTiedOn && !isTiedAhead;
        }
    }

    /** A row of books with what parts it into lines, and the setting of it. */
    private static final class Plan {
        /** How much a case counts for in a filled row, so that fewer cases come first and then less height. */
        static final int A_CASE = 1000;
        private static final int ROW = MOST_BOOKS + 1;

        int many;
        final int[] high = new int[ROW];
        final int[] thick = new int[ROW];
        final boolean[] tied = new boolean[ROW];
        int width;
        int plank;
        int caseHeight;
        Law cost;
        final int[] heights = new int[MOST_ALLOWED];
        int heightsMany;
        /** Prices by set and number of books, -1 where not worked out: few() and edge() ask for the same ones often. */
        final int[] price = new int[(MOST_HEIGHT + 1) * ROW];
        /** The least prices from a book on (-1: it can't be), and the first book of the line behind that book's. */
        final int[] least = new int[ROW];
        final int[] next = new int[ROW];
        /** The first book of each line, and behind them how many books there are. */
        final int[] first = new int[ROW];
        int lines;
        final int[] filled = new int[ROW];

        /** Takes all that a stock tells of lines. */
        Plan load(Stock stock) {
            many = stock.books;
            for (int i = 0; i < many; i++) {
                high[i] = stock.height[i];
                thick[i] = stock.thick[i];
                tied[i] = stock.tied[i];
            }
            width = stock.width;
            plank = stock.plank;
            caseHeight = stock.caseHeight;
            cost = stock.lawOf(COST);
            heightsMany = stock.allowedMany;
            System.arraycopy(stock.allowed, 0, heights, 0, MOST_ALLOWED);
            if (cost != null) {
                Arrays.fill(price, -1);
            }
            return this;
        }

        /** Takes the books of a height t or more alone, or the others, with no ties. */
        void keepOnly(Stock stock, int t, boolean isTall) {
            many = 0;
            for (int i = 0; i < stock.books; i++) {
                if ((stock.height[i] >= t) == isTall) {
                    high[many] = stock.height[i];
                    thick[many] = stock.thick[i];
                    tied[many] = false;
                    many++;
                }
            }
        }

        /** One more book comes to a place, which parts a tie there. */
        void insert(int place, int itsHeight, int itsThickness) {
            if (many >= MOST_BOOKS || !isWithin(place, 0, many)) {
                return;
            }
            for (int i = many; i > place; i--) {
                high[i] = high[i - 1];
                thick[i] = thick[i - 1];
                tied[i] = tied[i - 1];
            }
            high[place] = itsHeight;
            thick[place] = itsThickness;
            tied[place] = false;
            if (place > 0) {
                tied[place - 1] = false;
            }
            many++;
        }

        /** Finds the setting and its lines: whether there is one. */
        boolean settle() {
            lines = 0;
            if (leastPrices() < 0) {
                return false;
            }
            int at = 0;
            for (int i = 0; i < MOST_BOOKS && at < many; i++) {
                first[lines] = at;
                lines++;
                at = next[at];
            }
            first[lines] = many;
            return true;
        }

        /** The prices of the setting together, or NONE. */
        int leastPrices() {
            least[many] = 0;
            for (int i = many - 1; i >= 0; i--) {
                priceFrom(i);
            }
            return least[0] < 0 ? NONE : least[0];
        }

        private void priceFrom(int from) {
            least[from] = -1;
            next[from] = many;
            int thickness = 0;
            int tall = 0;
            for (int i = from; i < many; i++) {
                thickness += thick[i];
                tall = Math.max(tall, high[i]);
                if (thickness > width) {
                    return;
                }
                int set = setFor(tall);
                if (endsLine(i) && set > 0 && least[i + 1] >= 0) {
                    int prices = priceOf(set, i + 1 - from) + least[i + 1];
                    // Of like ones the longer line counts, which comes later here.
                    if (least[from] < 0 || prices <= least[from]) {
                        least[from] = prices;
                        next[from] = i + 1;
                    }
                }
            }
        }

        /** Whether a line may end with a book. */
        private boolean endsLine(int book) {
            return book + 1 >= many || !tied[book];
        }

        /** The height that a line is set to, 0: it can't be. */
        int setFor(int tall) {
            if (heightsMany == 0) {
                return tall;
            }
            int set = 0;
            for (int i = 0; i < heightsMany; i++) {
                if (heights[i] >= tall && (set == 0 || heights[i] < set)) {
                    set = heights[i];
                }
            }
            return set;
        }

        int priceOf(int set, int books) {
            if (cost == null) {
                return set + plank;
            }
            int at = set * ROW + books;
            if (!isWithin(at, 0, price.length - 1)) {
                return 0;
            }
            if (price[at] < 0) {
                price[at] = held(cost.gives(set, books, plank), 0, 9999);
            }
            return price[at];
        }

        int lineOf(int book) {
            for (int i = 0; i < lines; i++) {
                if (book < first[i + 1]) {
                    return i;
                }
            }
            return NONE;
        }

        int booksOf(int line) {
            return isWithin(line, 0, lines - 1) ? first[line + 1] - first[line] : 0;
        }

        int thicknessOf(int line) {
            int sum = 0;
            int from = isWithin(line, 0, lines - 1) ? first[line] : many;
            for (int i = 0; i < booksOf(line); i++) {
                sum += thick[from + i];
            }
            return sum;
        }

        int tallOf(int line) {
            int most = 0;
            int from = isWithin(line, 0, lines - 1) ? first[line] : many;
            for (int i = 0; i < booksOf(line); i++) {
                most = Math.max(most, high[from + i]);
            }
            return most;
        }

        /** The fewest cases times A_CASE, and the least height used in the last one; -1: it can't be. */
        int leastFilled() {
            Arrays.fill(filled, -1);
            filled[0] = 0;
            for (int i = 0; i < many; i++) {
                if (filled[i] >= 0) {
                    fillFrom(i);
                }
            }
            return filled[many];
        }

        private void fillFrom(int from) {
            int thickness = 0;
            int tall = 0;
            for (int i = from; i < many; i++) {
                thickness += thick[i];
                tall = Math.max(tall, high[i]);
                if (thickness > width) {
                    return;
                }
                int set = setFor(tall);
                if (endsLine(i) && set > 0 && set + plank <= caseHeight) {
                    int then = filledBy(filled[from], set + plank);
                    if (filled[i + 1] < 0 || then < filled[i + 1]) {
                        filled[i + 1] = then;
                    }
                }
            }
        }

        private int filledBy(int before, int lineHeight) {
            int cases = before / A_CASE;
            int used = before % A_CASE;
            if (cases > 0 && used + lineHeight <= caseHeight) {
                return before + lineHeight;
            }
            return (cases + 1) * A_CASE + lineHeight;
        }
    }

    /** The lines of a setting as their books' parts grow. */
    private static final class Years {
        private int lines;
        private final int[] thick = new int[MOST_BOOKS];
        /** The line at which each part grows, -1: none. */
        private final int[] growsAt = new int[PARTS];
        private Law grow;

        /** Begins with the lines that plan holds of a stock. */
        void begin(Stock stock, Plan plan) {
            lines = Math.min(plan.lines, MOST_BOOKS);
            for (int i = 0; i < lines; i++) {
                thick[i] = plan.thicknessOf(i);
            }
            Arrays.fill(growsAt, -1);
            for (int i = 0; i < stock.books; i++) {
                if (isWithin(stock.part[i], 0, PARTS - 1)) {
                    growsAt[stock.part[i]] = plan.lineOf(i);
                }
            }
            grow = stock.lawOf(GROW);
        }

        void pass(int year) {
            for (int p = 0; p < PARTS; p++) {
                int at = growsAt[p];
                if (isWithin(at, 0, lines - 1)) {
                    thick[at] += grow == null ? 1 : held(grow.gives(p, year, 0), 0, 99);
                }
            }
        }

        /** The line that is most full. */
        int thickest() {
            int best = 0;
            for (int i = 1; i < lines; i++) {
                if (thick[i] > thick[best]) {
                    best = i;
                }
            }
            return best;
        }

        int thickness() {
            return thick[thickest()];
        }
    }

    /** A text as it is worked out: numbers and names first, then what joins them. It never changes. */
    private static final class Law {
        final int key;
        final int operands;
        private final int[] steps;
        private final int[] stack;

        Law(int key, int operands, int[] steps) {
            this.key = key;
            this.operands = operands;
            this.steps = steps;
            this.stack = new int[Math.max(1, operands)];
        }

        /** What it gives where its first name is a, the second b, the third c. */
        int gives(int a, int b, int c) {
            int top = -1;
            for (int i = 0; i < steps.length; i++) {
                int step = steps[i];
                if (step >= Reader.LAST_NAME) {
                    if (top + 1 < stack.length) {
                        top++;
                        stack[top] = operand(step, a, b, c);
                    }
                } else if (step == -'!') {
                    if (top >= 0) {
                        stack[top] = stack[top] == 0 ? 1 : 0;
                    }
                } else if (top >= 1) {
                    top--;
                    stack[top] = joined(-step, stack[top], stack[top + 1]);
                }
            }
            return stack[0];
        }

        private static int operand(int step, int a, int b, int c) {
            switch (step) {
                case -1:
                    return a;
                case -2:
                    return b;
                case -3:
                    return c;
                default:
                    return step;
            }
        }

        private static int joined(int sign, int x, int y) {
            switch (sign) {
                case '|':
                    return x != 0 || y != 0 ? 1 : 0;
                case '&':
                    return x != 0 && y != 0 ? 1 : 0;
                case '<':
                    return x < y ? 1 : 0;
                case '=':
                    return x == y ? 1 : 0;
                case '>':
                    return x > y ? 1 : 0;
                case '+':
                    return x + y;
                case '-':
                    return x - y;
                case '*':
                    return x * y;
                default:
                    return y == 0 ? 0 : x / y;
            }
        }
    }

    /** The tape, and the word or sign of it that is looked at. */
    private static final class Tape {
        static final int END = 0, LETTERS = 1, DIGITS = 2, SIGN = 3, WRONG = 4;

        private final int[] bytes = new int[MOST_BYTES];
        int length;
        int sort;
        int start;
        private int end;

        void add(int four) {
            for (int i = 24; i >= 0 && length < MOST_BYTES; i -= 8) {
                bytes[length] = four >>> i & 255;
                length++;
            }
        }

        void begin() {
            sort = END;
            end = 0;
            advance();
        }

        /** Looks at the next word or sign; at the end, it stays there. */
        void advance() {
            int behind = end;
            boolean isBehindWord = sort == LETTERS || sort == DIGITS;
            start = behind;
            while (start < length && bytes[start] == ' ') {
                start++;
            }
            sort = sortAt(start);
            boolean isWord = sort == LETTERS || sort == DIGITS;
            end = sort == END ? start : start + 1;
            while (isWord && end < length && sortAt(end) == sort) {
                end++;
            }
            boolean needsBlank = isWord && isBehindWord && start == behind;
            if (needsBlank || (sort == DIGITS && end - start > 4)) {
                sort = WRONG;
            }
        }

        private int sortAt(int place) {
            if (!isWithin(place, 0, length - 1)) {
                return END;
            }
            int b = bytes[place];
            if (b >= 'a' && b <= 'z') {
                return LETTERS;
            }
            return b >= '0' && b <= '9' ? DIGITS : SIGN;
        }

        /** The sign that is looked at, 0: it is none that a text has. */
        int sign() {
            return sort == SIGN && start < length ? bytes[start] : 0;
        }

        boolean isWord(String word) {
            if (sort != LETTERS || end - start != word.length()) {
                return false;
            }
            for (int i = 0; i < word.length() && start + i < length; i++) {
                if (bytes[start + i] != word.charAt(i)) {
                    return false;
                }
            }
            return true;
        }

        /** The place of the word among names of one letter, -1: it is none of them. */
        int nameAmong(String names) {
            if (sort != LETTERS || end - start != 1 || start >= length) {
                return -1;
            }
            return names.indexOf((char) bytes[start]);
        }

        int number() {
            int value = 0;
            for (int i = start; i < end && i < length; i++) {
                value = value * 10 + bytes[i] - '0';
            }
            return value;
        }
    }

    /** Reads the tape as a text, by the grammar from the loosest on. */
    private static final class Reader {
        /** Steps below are signs, less than 0; this and the two above it are names; from 0 on they are numbers. */
        static final int LAST_NAME = -3;
        private static final int OR = 0, AND = 1, TEST = 2, SUM = 3, TERM = 4, PIECE = 5;
        private static final int MOST_OPEN = 8;

        final Tape tape = new Tape();
        private final int[] steps = new int[MOST_BYTES];
        private int stepsMany;
        private int operands;
        private int key;

        /** The law of the tape; null: there is a fault, where the tape is looked at then. */
        Law read() {
            stepsMany = 0;
            operands = 0;
            tape.begin();
            key = keyHere();
            if (key < 0) {
                return null;
            }
            tape.advance();
            if (!reads(OR, 0, 0) || tape.sort != Tape.END) {
                return null;
            }
            return new Law(key, operands, Arrays.copyOf(steps, stepsMany));
        }

        private int keyHere() {
            if (tape.isWord("cost")) {
                return COST;
            }
            if (tape.isWord("walk")) {
                return WALK;
            }
            return tape.isWord("grow") ? GROW : -1;
        }

        private String names() {
            switch (key) {
                case COST:
                    return "hnl";
                case WALK:
                    return "hp";
                default:
                    return "py";
            }
        }

        private boolean reads(int level, int open, int nots) {
            if (level >= PIECE) {
                return readsPiece(open, nots);
            }
            if (!reads(level + 1, open, nots)) {
                return false;
            }
            int most = level == TEST ? 1 : MOST_BYTES;
            for (int i = 0; i < most && isJoint(level, tape.sign()); i++) {
                int sign = tape.sign();
                tape.advance();
                if (!reads(level + 1, open, nots)) {
                    return false;
                }
                put(-sign);
            }
            return true;
        }

        private static boolean isJoint(int level, int sign) {
            switch (level) {
                case OR:
                    return sign == '|';
                case AND:
                    return sign == '&';
                case TEST:
                    return sign == '<' || sign == '=' || sign == '>';
                case SUM:
                    return sign == '+' || sign == '-';
                default:
                    return sign == '*' || sign == '/';
            }
        }

        private boolean readsPiece(int open, int nots) {
            if (tape.sort == Tape.DIGITS) {
                return readsOperand(tape.number());
            }
            if (tape.sort == Tape.LETTERS) {
                int name = tape.nameAmong(names());
                return name >= 0 && readsOperand(-1 - name);
            }
            if (tape.sign() == '!' && nots < MOST_OPEN) {
                tape.advance();
                if (!readsPiece(open, nots + 1)) {
                    return false;
                }
                put(-'!');
                return true;
            }
            if (tape.sign() == '(' && open < MOST_OPEN) {
                tape.advance();
                if (!reads(OR, open + 1, nots) || tape.sign() != ')') {
                    return false;
                }
                tape.advance();
                return true;
            }
            return false;
        }

        private boolean readsOperand(int step) {
            put(step);
            operands++;
            tape.advance();
            return true;
        }

        private void put(int step) {
            if (stepsMany < MOST_BYTES) {
                steps[stepsMany] = step;
                stepsMany++;
            }
        }
    }

    /** A row of shorts or floats; a float that is no number is held as NONE, which no float of a row is. */
    private static final class Sheet {
        int sort = MISSING;
        private int places;
        final int[] row = new int[MOST_PLACES];

        void become(int itsSort, int itsPlaces) {
            sort = itsSort;
            places = held(itsPlaces, 0, MOST_PLACES);
            Arrays.fill(row, 0);
        }

        void becomeAs(Sheet other) {
            sort = other.sort;
            places = other.places;
            System.arraycopy(other.row, 0, row, 0, MOST_PLACES);
        }

        boolean hasPlaces(int from, int many) {
            return isWithin(from, 0, places) && isWithin(many, 0, places - from);
        }

        /** How many places from the first on are sizes of books. */
        int sizes() {
            for (int i = 0; i < places; i++) {
                if (!isSize(row[i])) {
                    return i;
                }
            }
            return places;
        }
    }

    private static final class Slot {
        int thing;
        final Board board = new Board();
        final Sheet sheet = new Sheet();
        int number;

        /** What is found where a thing is looked for: 0 if it is there. */
        int finding(int wanted) {
            if (thing == 0) {
                return NOTHING;
            }
            return thing == wanted ? 0 : KIND;
        }
    }
}
