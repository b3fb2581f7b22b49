/** Promises 22 to 26: feed, trim, text, textTold, why. */
public final class TextsTest {
    private static final int BAD = Due.BAD, FULL = Due.FULL, NONE = Due.NONE;
    private static final int LEAST = Integer.MIN_VALUE, GREATEST = Integer.MAX_VALUE;

    public static void main(String[] args) {
        promise22Feed();
        promise23Trim();
        promise24Faults();
        promise24Depths();
        promise24Ends();
        promise24Full();
        promise24WorkedOut();
        promise25TextTold();
        promise26Why();
        Due.end();
    }

    private static void promise22Feed() {
        BookBoards x = new BookBoards();
        // "cost" "h   " "    ": the highest byte comes first.
        Due.is(12, x.feed(0x636F7374, 0x2A202020, 0x20202020));
        Due.is(-104, x.text());
        Due.is(12, x.feed(0x20202020, 0x20202063, 0x6F737420));
        Due.is(24, x.feed(0x6820202B, 0x20202020, 0x2020206E));
        Due.is(0, x.text());
        Due.is(2, x.textTold(0, 1));
        Due.is(0, x.count(8));
        for (int i = 1; i <= 8; i++) {
            Due.is(12 * i, x.feed(-1, 0, i));
        }
        Due.all(FULL, x.feed(1, 2, 3), x.feed(0, 0, 0));
        Due.is(96, x.count(8));
        x.trim(85);
        Due.is(FULL, x.feed(1, 2, 3));
        x.trim(84);
        Due.is(96, x.feed(1, 2, 3));
        Due.is(-100, x.text());
        Due.is(12, x.feed(LEAST, GREATEST, -1));
    }

    private static void promise23Trim() {
        BookBoards x = new BookBoards();
        Due.row(Due.of(0, BAD, BAD), x.trim(0), x.trim(1), x.trim(-1));
        x.feed(0x636F7374, 0x20682B68, 0x20202020);
        Due.row(Due.of(BAD, BAD, BAD, BAD, 12), x.trim(13), x.trim(-1), x.trim(LEAST), x.trim(GREATEST), x.count(8));
        Due.row(Due.of(12, 6, BAD, 6), x.trim(12), x.trim(6), x.trim(7), x.count(8));
        Due.is(0, x.text());
        Due.is(1, x.textTold(0, 1));
        Due.is(0, x.count(8));
        // What comes behind a trim stands right behind what was kept.
        x.feed(0x67726F77, 0x20202020, 0x20202020);
        x.trim(5);
        Due.is(17, x.feed(0x70202020, 0x20202020, 0x20202020));
        Due.is(1, x.text());
    }

    private static void fault(int place, String text) {
        BookBoards x = new BookBoards();
        Due.tape(x, text);
        Due.isTrue(x.text() == -100 - place, "'" + text + "' has its fault at " + place);
        Due.row(Due.of(0, 0), x.count(8), x.count(2));
    }

    private static void right(String text) {
        BookBoards x = new BookBoards();
        Due.tape(x, text);
        Due.isTrue(x.text() == 0, "'" + text + "' is a text");
        Due.row(Due.of(0, 1), x.count(8), x.count(2));
    }

    private static void promise24Faults() {
        fault(0, "");
        fault(3, "   ");
        fault(0, "cos h");
        fault(0, "costs h");
        fault(0, "costh");
        fault(0, "Cost h");
        fault(2, "  h");
        fault(0, "5");
        fault(0, "(cost h)");
        fault(4, "cost");
        fault(6, "cost  ");
        fault(4, "cost5");
        fault(4, "cost5h");
        right("cost(5)");
        right("cost!h");
        right("cost 5");
        right("  cost   h  ");
        fault(5, "cost p");
        fault(5, "cost y");
        right("cost h+n+l");
        right("walk h+p");
        fault(5, "walk n");
        fault(5, "walk l");
        fault(5, "walk y");
        right("grow p+y");
        fault(5, "grow h");
        fault(5, "grow n");
        fault(5, "cost hh");
        fault(5, "cost hz");
        fault(5, "cost ha");
        fault(6, "cost !");
        fault(6, "cost !)");
        fault(5, "cost cost");
        fault(6, "cost h5");
        fault(6, "cost 5h");
        fault(7, "cost h n");
        fault(7, "cost 5 5");
        right("cost 9999");
        right("cost 0000");
        fault(5, "cost 10000");
        fault(5, "cost 00001");
        fault(7, "cost h+00001");
        fault(6, "cost h.");
        fault(5, "cost H");
        fault(5, "cost -1");
        fault(5, "cost )");
        fault(5, "cost *h");
        fault(7, "cost h+");
        fault(8, "cost h+ ");
        fault(7, "cost h++h");
        fault(8, "cost h<n<l");
        fault(8, "cost h=n>l");
        fault(7, "cost h<=n");
        right("cost h<n&n<l|h=1");
        right("cost (h<n)<l");
        fault(11, "cost (h<n)<");
        fault(12, "cost (h<n)<l<1");
        fault(7, "cost h&&n");
        fault(6, "cost h!n");
        fault(6, "cost h(n)");
        fault(6, "cost h)");
        fault(7, "cost (h");
        fault(8, "cost (h))");
        fault(6, "cost ()");
        fault(4, "cost\th");
        fault(6, "cost h\n");
        BookBoards x = new BookBoards();
        for (int b : new int[] {0, 9, 31, 33, 96, 123, 127, 128, 200, 255, 'A', 'Z', '/', ':', '.'}) {
            Due.tape(x, new int[] {'c', 'o', 's', 't', ' ', 'h', b});
            Due.is(b == 33 || b != '/' ? -106 : -107, x.text());
        }
        Due.is(0, x.count(2));
    }

    private static void promise24Depths() {
        right("cost ((((((((h))))))))");
        fault(13, "cost (((((((((h)))))))))");
        right("cost !!!!!!!!h");
        fault(13, "cost !!!!!!!!!h");
        right("cost !!!!!!!!((((((((h))))))))");
        right("cost ((((((((!!!!!!!!h))))))))");
        right("cost !(!(!(!(!(!(!(!(h))))))))");
        fault(21, "cost !(!(!(!(!(!(!(!(!h))))))))");
        fault(21, "cost !(!(!(!(!(!(!(!((h)))))))))");
        // They are counted where they stand within others, not all together.
        right("cost (h)+(h)+(h)+(h)+(h)+(h)+(h)+(h)+(h)+(h)");
        right("cost !h+!h+!h+!h+!h+!h+!h+!h+!h+!h");
        right("cost !!!!(!!!!h+!!!!n)+!!!!!!!!l");
        fault(20, "cost !!!!(!!!!h+!!!!!n)");
        right("cost (((((((h)))))))+((((((((n))))))))");
        fault(29, "cost (((((((h)))))))+(((((((((1)))))))))");
    }

    private static void promise24Ends() {
        // A tape that is full to its last byte, and one that ends too soon there.
        StringBuilder s = new StringBuilder("grow p");
        while (s.length() < 96) {
            s.append("+y");
        }
        right(s.toString());
        fault(96, s.substring(0, 94) + "+ ");
        fault(95, s.substring(0, 95));
        s.setLength(94);
        right(s + "  ");
        fault(95, s.substring(0, 94) + " )");
    }

    private static void promise24Full() {
        BookBoards x = new BookBoards();
        for (int i = 0; i < 14; i++) {
            Due.is(i, Due.text(x, i % 2 == 0 ? "cost h" : "walk h"));
        }
        Due.row(Due.of(FULL, 0, 14), Due.text(x, "grow 1"), x.count(8), x.count(2));
        Due.row(Due.of(-105, 0, 14), Due.text(x, "grow h"), x.count(8), x.count(2));
        Due.row(Due.of(12, 13, NONE), x.why(0), x.why(1), x.why(2));
        Due.row(Due.of(1, BAD, BAD), x.textTold(13, 0), x.textTold(14, 0), x.textTold(15, 1));
    }

    /** What a text of cost gives for one book of a height 20 with a plank of 2. */
    private static void gives(int want, String e) {
        BookBoards x = new BookBoards();
        x.book(2010, 0);
        Due.is(0, Due.text(x, "cost " + e));
        Due.isTrue(x.setting(-2) == want, e + " gives " + x.setting(-2) + ", due is " + want);
    }

    private static void promise24WorkedOut() {
        gives(20, "h");
        gives(1, "n");
        gives(2, "l");
        gives(14, "2+3*4");
        gives(20, "(2+3)*4");
        gives(5, "10-3-2");
        gives(9, "10-(3-2)");
        gives(2, "20/5/2");
        gives(16, "20/5*4");
        gives(3, "7/2");
        gives(7, "10+(0-7)/2");
        gives(0, "7/0");
        gives(3, "0/0+3");
        gives(1, "2<3");
        gives(0, "3<3");
        gives(1, "3=3");
        gives(0, "3=4");
        gives(1, "4>3");
        gives(0, "3>3");
        gives(1, "1+1<3");
        gives(1, "5&3");
        gives(0, "5&0");
        gives(1, "0|7");
        gives(0, "0|0");
        gives(1, "1|0&0");
        gives(0, "(1|0)&0");
        gives(1, "1<2&3>2");
        gives(0, "!5");
        gives(1, "!0");
        gives(1, "!!9");
        gives(2, "!0+1");
        gives(3, "!0*3");
        gives(0, "!(0+1)");
        gives(1, "0-1&1");
        gives(12, "0012");
        gives(1, "9999*9999*9999=" + wrapped());
        gives(1, "4096*4096*128<0");
        gives(1, "4096*4096*128-1>0");
        gives(1, "4096*4096*128/(0-1)<0");
        gives(1, "4096*4096*128/(0-1)=4096*4096*128");
        gives(1, "0-4096*4096*128<0");
    }

    /** 9999 to the third in 32 bits, by its upper and lower parts. */
    private static String wrapped() {
        int v = 9999 * 9999 * 9999;
        int upper = v / 9999 / 9999;
        int middle = (v - upper * 9999 * 9999) / 9999;
        int lower = v - upper * 9999 * 9999 - middle * 9999;
        return "(" + signed(upper) + ")*9999*9999+(" + signed(middle) + ")*9999+(" + signed(lower) + ")";
    }

    private static String signed(int v) {
        return v < 0 ? "0-" + -v : String.valueOf(v);
    }

    private static void promise25TextTold() {
        BookBoards x = new BookBoards();
        Due.all(BAD, x.textTold(0, 0), x.textTold(-1, 0));
        Due.text(x, "grow 5");
        Due.text(x, "walk h*(p+12)-!h");
        Due.text(x, "cost 1 + 2 + 3 + h + n + l + (0)");
        Due.row(Due.of(2, 1), x.textTold(0, 0), x.textTold(0, 1));
        Due.row(Due.of(1, 4), x.textTold(1, 0), x.textTold(1, 1));
        Due.row(Due.of(0, 7), x.textTold(2, 0), x.textTold(2, 1));
        Due.text(x, "cost h h");
        Due.all(BAD, x.textTold(3, 0), x.textTold(-1, 1), x.textTold(0, -1), x.textTold(0, 2), x.textTold(LEAST, 0),
                x.textTold(GREATEST, 0), x.textTold(0, LEAST), x.textTold(0, GREATEST));
        // As many as a tape can hold.
        StringBuilder s = new StringBuilder("grow p");
        while (s.length() < 96) {
            s.append("+y");
        }
        Due.is(3, Due.text(x, s.toString()));
        Due.is(46, x.textTold(3, 1));
    }

    private static void promise26Why() {
        BookBoards x = new BookBoards();
        Due.all(NONE, x.why(0), x.why(1), x.why(2));
        Due.all(BAD, x.why(-1), x.why(3), x.why(LEAST), x.why(GREATEST));
        x.book(2010, 0);
        Due.text(x, "cost 7");
        Due.text(x, "walk 8");
        Due.row(Due.of(0, 1, NONE, 7), x.why(0), x.why(1), x.why(2), x.setting(-2));
        Due.text(x, "cost 9");
        Due.row(Due.of(2, 1, NONE, 9), x.why(0), x.why(1), x.why(2), x.setting(-2));
        Due.text(x, "cost");
        Due.row(Due.of(2, 9), x.why(0), x.setting(-2));
        Due.text(x, "grow 1");
        Due.row(Due.of(2, 1, 3), x.why(0), x.why(1), x.why(2));
    }
}
