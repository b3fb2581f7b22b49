/** 'Terms', part 3: texts. */
final class SentencesTerms3 {
    private static final int FULL = Due.FULL, NONE = Due.NONE;

    private SentencesTerms3() {
    }

    static void all() {
        texts14();
        usedUp();
        keys();
        grammar();
        loosestFirst();
        leftToRight();
        oneTest();
        numbers();
        names();
        namesGive();
        words();
        blanks();
        faultFirst();
        faultBehindAWord();
        faultLongNumber();
        faultNinthBracket();
        faultNinthNot();
        faultAtTheEnd();
        intsWrap();
        divisionBy0();
        truths();
        toldLast();
    }

    /** What a text of cost gives for one book of a height 20 with a plank of 2. */
    static void gives(int want, String e) {
        BookBoards x = new BookBoards();
        x.book(2010, 0);
        Due.is(0, Due.text(x, "cost " + e));
        int got = x.setting(-2);
        Due.isTrue(got == want, "'" + e + "' gives " + got + ", due is " + want);
    }

    /** The text has its fault at the place, and is not told then; the tape is used up. */
    static void fault(int place, String text) {
        BookBoards x = new BookBoards();
        Due.tape(x, text);
        int got = x.text();
        Due.isTrue(got == -100 - place, "'" + text + "' answers " + got + ", due is a fault at " + place);
        Due.row(Due.of(0, 0), x.count(8), x.count(2));
    }

    static void right(int operands, String text) {
        BookBoards x = new BookBoards();
        Due.tape(x, text);
        int got = x.text();
        Due.isTrue(got == 0, "'" + text + "' answers " + got + ", due is 0");
        Due.row(Due.of(0, 1, operands), x.count(8), x.count(2), x.textTold(0, 1));
    }

    private static void texts14() {
        Doc.says("Terms 3", "TEXTS, 14 at most, numbered from 0, from THE TAPE (96 bytes at most;");
        BookBoards x = new BookBoards();
        for (int i = 0; i < 14; i++) {
            Due.row(Due.of(i, i + 1), Due.text(x, "cost " + i), x.count(2));
        }
        Due.row(Due.of(FULL, 14, 13), Due.text(x, "cost 14"), x.count(2), x.why(0));
        // A text of one byte less than the tape has, of all of it; one byte more does not come.
        String full = "cost h" + "+h".repeat(45);
        Due.is(96, full.length());
        right(46, full);
        right(45, full.substring(0, 94));
        right(45, full.substring(0, 94) + " ");
        fault(95, full.substring(0, 95));
        BookBoards y = new BookBoards();
        Due.tape(y, full);
        Due.row(Due.of(96, FULL, 0), y.count(8), y.feed(0, 0, 0), y.text());
    }

    private static void usedUp() {
        Doc.says("Terms 3", "an act that reads it uses it up, whatever it answers): KEY E.");
        BookBoards x = new BookBoards();
        Due.row(Due.of(0, 0, -100), Due.text(x, "cost h"), x.count(8), x.text());
        Due.row(Due.of(-106, 0, -100), Due.text(x, "cost h)"), x.count(8), x.text());
        for (int i = 1; i < 14; i++) {
            Due.text(x, "walk h");
        }
        Due.row(Due.of(FULL, 0, -100), Due.text(x, "cost h"), x.count(8), x.text());
        // What was on it is gone: what comes then stands at its begin.
        BookBoards y = new BookBoards();
        Due.text(y, "cost h+");
        Due.row(Due.of(0, 1), Due.text(y, "walk 1"), y.textTold(0, 0));
    }

    private static void keys() {
        Doc.says("Terms 3", "KEY: cost | walk | grow.");
        right(1, "cost 1");
        right(1, "walk 1");
        right(1, "grow 1");
        for (String text : new String[] {"cos 1", "costs 1", "ost 1", "Cost 1", "COST 1", "walks 1", "wal 1", "gro 1",
            "grows 1", "costwalk 1", "h 1", "1", "1 cost", "!cost 1", "(cost 1)", "c 1", "grov 1", "wall 1"}) {
            fault(0, text);
        }
        for (String key : new String[] {"cost", "walk", "grow"}) {
            for (int i = 0; i < 4; i++) {
                fault(0, key.substring(0, i) + "z" + key.substring(i + 1) + " 1");
                fault(0, key.substring(0, i) + key.substring(i + 1) + " 1");
                fault(0, key.substring(0, i) + "a" + key.substring(i) + " 1");
            }
        }
        fault(5, "cost walk 1");
        fault(5, "cost cost 1");
        fault(5, "grow grow");
    }

    private static void grammar() {
        Doc.says("Terms 3",
                "E, the loosest first: OR: AND { | AND }; AND: TEST { & TEST }; TEST: SUM [ (< | = | >) SUM ]; "
                + "SUM: TERM { (+ | -) TERM }; TERM: PIECE { (* | /) PIECE }; PIECE: NUMBER (1 to 4 digits) | NAME | "
                + "! PIECE | ( E ).");
        for (String sign : new String[] {"|", "&", "<", "=", ">", "+", "-", "*", "/"}) {
            right(2, "cost h" + sign + "n");
            fault(7, "cost h" + sign);
            fault(5, "cost " + sign + "h");
            fault(7, "cost h" + sign + ")");
            for (String next : new String[] {"|", "&", "<", "=", ">", "+", "-", "*", "/"}) {
                fault(7, "cost h" + sign + next + "n");
            }
            right(2, "cost h" + sign + "!n");
            right(2, "cost h" + sign + "(n)");
            right(2, "cost (h" + sign + "n)");
            fault(7, "cost (" + "h!" + sign + "n)");
        }
        fault(6, "cost ()");
        fault(5, "cost )");
        fault(6, "cost !");
        fault(6, "cost !)");
        fault(6, "cost h!");
        fault(6, "cost h(n)");
        fault(7, "cost h n");
        fault(8, "cost (h)(n)");
        fault(9, "cost (h) n");
        fault(8, "cost (h)!n");
        right(1, "cost (h)");
        right(1, "cost !(h)");
        right(1, "cost (!h)");
    }

    private static void loosestFirst() {
        Doc.says("Terms 3", "E, the loosest first:");
        gives(1, "1|0&0");
        gives(1, "0&0|1");
        gives(0, "(1|0)&0");
        gives(1, "2=2&3");
        gives(0, "2=(2&3)");
        gives(1, "0<1&1<2");
        gives(1, "1+2=3");
        gives(2, "1+(2=3)+1");
        gives(1, "3=1+2");
        gives(1, "5>2+2");
        gives(14, "2+3*4");
        gives(20, "(2+3)*4");
        gives(10, "2*3+4");
        gives(9, "10-4/4");
        gives(4, "!0+3");
        gives(0, "!(0+3)");
        gives(3, "!0*3");
        gives(1, "!1=0");
        gives(1, "!1|1");
        gives(0, "!(1|1)");
    }

    private static void leftToRight() {
        Doc.says("Terms 3", "SUM: TERM { (+ | -) TERM }; TERM: PIECE { (* | /) PIECE };");
        gives(5, "10-3-2");
        gives(9, "10-(3-2)");
        gives(9, "10-3+2");
        gives(2, "20/5/2");
        gives(10, "20/(5/2)");
        gives(8, "20/5*2");
        gives(2, "20/(5*2)");
        gives(30, "7/2*10");
        gives(35, "10*7/2");
    }

    private static void oneTest() {
        Doc.says("Terms 3", "TEST: SUM [ (< | = | >) SUM ];");
        for (String sign : new String[] {"<", "=", ">"}) {
            for (String next : new String[] {"<", "=", ">"}) {
                fault(8, "cost h" + sign + "n" + next + "l");
                fault(9, "cost (h" + sign + "n" + next + "l)");
                right(3, "cost (h" + sign + "n)" + next + "l");
                right(3, "cost h" + sign + "(n" + next + "l)");
                right(4, "cost h" + sign + "n&h" + next + "l");
                right(4, "cost h" + sign + "n|h" + next + "l");
                fault(10, "cost h" + sign + "n+h" + next + "l");
            }
        }
    }

    private static void numbers() {
        Doc.says("Terms 3", "NUMBER (1 to 4 digits)");
        gives(0, "0");
        gives(9, "9");
        gives(0, "0000");
        gives(12, "0012");
        gives(9999, "9999");
        fault(5, "cost 00000");
        fault(5, "cost 99999");
        fault(5, "cost 10000");
        fault(5, "cost 000000000000000000000000");
    }

    private static void names() {
        Doc.says("Terms 3",
                "NAMES, each one letter: of cost h SET, n how many BOOKS, l PLANK; of walk h HEIGHT, p PART; "
                + "of grow p PART, y the YEAR.");
        String[] keys = {"cost ", "walk ", "grow "};
        String[] names = {"hnl", "hp", "py"};
        for (int key = 0; key < 3; key++) {
            for (char c = 'a'; c <= 'z'; c++) {
                if (names[key].indexOf(c) >= 0) {
                    right(1, keys[key] + c);
                } else {
                    fault(5, keys[key] + c);
                    fault(7, keys[key] + "1+" + c);
                }
                fault(5, keys[key] + "h" + c);
                fault(5, keys[key] + c + "p");
                fault(5, keys[key] + (char) (c - 32));
            }
        }
    }

    private static void namesGive() {
        Doc.says("Terms 3", "of cost h SET, n how many BOOKS, l PLANK; of walk h HEIGHT, p PART; of grow p PART, y the "
                + "YEAR.");
        BookBoards x = Due.withBooks(2010, 3010, 2510);
        Due.text(x, "cost h");
        Due.is(30, x.setting(-2));
        x.allow(44);
        Due.is(44, x.setting(-2));
        Due.text(x, "cost n");
        Due.is(3, x.setting(-2));
        Due.text(x, "cost l");
        Due.is(2, x.setting(-2));
        x.set(1, 9);
        Due.is(9, x.setting(-2));
        x.set(1, 0);
        Due.is(0, x.setting(-2));
        // HEIGHT in walk is that of the book, not what its line is set to.
        BookBoards y = new BookBoards();
        y.book(3010, 7);
        y.book(2010, 1);
        y.allow(50);
        Due.text(y, "cost 0");
        Due.text(y, "walk h");
        Due.row(Due.of(30, 50, 0), y.apart(30), y.apart(20), y.apart(31));
        Due.text(y, "walk p");
        Due.row(Due.of(7, 8, 0), y.apart(30), y.apart(20), y.apart(31));
        Due.text(y, "grow p");
        Due.row(Due.of(20, 28, 36), y.most(0, 1), y.most(1, 1), y.most(2, 1));
        // Two parts grow, each year by that year's number.
        Due.text(y, "grow y");
        Due.row(Due.of(20, 22, 26, 32), y.most(0, 1), y.most(1, 1), y.most(2, 1), y.most(3, 1));
        Due.text(y, "grow (y=60)*9");
        Due.row(Due.of(20, 38), y.most(59, 1), y.most(60, 1));
    }

    private static void words() {
        Doc.says("Terms 3",
                "A word is a row of letters a .. z, or of digits, as long as it goes; any other byte is a sign "
                + "by itself.");
        // Every byte behind a name: letters make the word longer, digits need a blank, signs go on, end, or are wrong.
        for (int b = 0; b < 256; b++) {
            BookBoards x = new BookBoards();
            Due.tape(x, new int[] {'c', 'o', 's', 't', ' ', 'h', b, 'n'});
            boolean isLetter = b >= 'a' && b <= 'z';
            boolean isJoint = "|&<=>+-*/".indexOf(b) >= 0;
            int due = isLetter ? -105 : isJoint ? 0 : b == ' ' ? -107 : -106;
            int got = x.text();
            Due.isTrue(got == due, "byte " + b + " behind a name answers " + got + ", due is " + due);
        }
        // Every byte ahead of a name.
        for (int b = 0; b < 256; b++) {
            BookBoards x = new BookBoards();
            Due.tape(x, new int[] {'c', 'o', 's', 't', ' ', b, 'h'});
            boolean isDigit = b >= '0' && b <= '9';
            boolean isRight = b == '!' || b == ' ';
            int due = isRight ? 0 : isDigit ? -106 : b == '(' ? -107 : -105;
            int got = x.text();
            Due.isTrue(got == due, "byte " + b + " ahead of a name answers " + got + ", due is " + due);
        }
        // Every byte at the begin, and right behind the key.
        for (int b = 0; b < 256; b++) {
            BookBoards x = new BookBoards();
            Due.tape(x, new int[] {b, 'g', 'r', 'o', 'w', ' ', 'p'});
            Due.is(b == ' ' ? 0 : -100, x.text());
            Due.tape(x, new int[] {'g', 'r', 'o', 'w', b, 'p'});
            boolean isLetter = b >= 'a' && b <= 'z';
            int due = isLetter ? -100 : b == ' ' || b == '!' ? x.count(2) : b == '(' ? -106 : -104;
            Due.is(due, x.text());
        }
    }

    private static void blanks() {
        Doc.says("Terms 3",
                "Between words and signs, and at the ends, there may be blanks (byte 32); a word right behind "
                + "another one needs one.");
        right(1, "cost h");
        right(1, "   cost h");
        right(1, "cost h   ");
        right(1, "cost      h");
        right(4, " cost ( h + n ) * ! l < 5 ");
        right(4, "cost(h+n)*!l<5");
        right(1, "cost(5)");
        right(1, "cost!5");
        right(1, " ".repeat(90) + "cost 1");
        right(1, "cost" + " ".repeat(91) + "1");
        right(1, "cost 1" + " ".repeat(90));
        fault(4, "cost5");
        fault(4, "cost5+h");
        fault(0, "costh");
        fault(0, "co st h");
        // A blank parts words: two names, two numbers.
        fault(7, "cost h h");
        fault(7, "cost 1 2");
        fault(7, "cost 1 h");
        // Other bytes that look like blanks are signs.
        for (char c : new char[] {9, 10, 11, 12, 13, 0, 160}) {
            fault(0, c + "cost h");
            fault(4, "cost" + c + "h");
            fault(6, "cost h" + c);
        }
    }

    private static void faultFirst() {
        Doc.says("Terms 3", "FAULT: the first byte of the first word or sign with which no TEXT goes on");
        fault(5, "cost abc + ) (");
        fault(7, "cost h+abc");
        fault(7, "cost h+y)");
        fault(7, "cost h ) ) )");
        fault(6, "cost h)h)");
        fault(12, "cost h   +  *h");
        fault(0, "abc def");
        fault(2, "  abc def");
        fault(5, "cost ppppp");
        fault(5, "walk n*)(");
        fault(95, "cost h" + " ".repeat(89) + ")");
        fault(95, "cost h" + " ".repeat(89) + "h");
    }

    private static void faultBehindAWord() {
        Doc.says("Terms 3", "(a word that needs a blank ahead of it,");
        fault(4, "cost1");
        fault(4, "walk1234");
        fault(6, "cost h5");
        fault(6, "cost 5h");
        fault(9, "cost 1234n");
        fault(9, "cost 1234n+(");
        fault(7, "grow (p1)");
        fault(8, "cost h+1h");
        fault(7, "cost 12cost");
    }

    private static void faultLongNumber() {
        Doc.says("Terms 3", "a NUMBER of more than 4 digits,");
        fault(5, "cost 12345");
        fault(7, "cost h+12345");
        fault(6, "cost (00001)");
        fault(6, "cost !12345");
        fault(5, "cost 12345h");
        right(1, "cost (9999)");
        right(2, "cost 1234+1234");
        fault(10, "cost 1234+12340");
    }

    private static void faultNinthBracket() {
        Doc.says("Terms 3", "the ninth ( that would be open within others,");
        right(1, "cost ((((((((h))))))))");
        fault(13, "cost (((((((((h)))))))))");
        fault(13, "cost (((((((((");
        fault(13, "cost ((((((((");
        right(2, "cost ((((((((h))))))))+((((((((n))))))))");
        fault(31, "cost ((((((((h))))))))+(((((((((n)))))))))");
        right(9, "cost (h)+(h)+(h)+(h)+(h)+(h)+(h)+(h)+(h)");
        fault(15, "cost ((((((((h+(n)))))))))");
        right(2, "cost " + "(".repeat(7) + "h+(n" + ")".repeat(8));
        // One is closed, so one more may be open.
        right(2, "cost " + "(".repeat(8) + "h)+(n" + ")".repeat(8));
    }

    private static void faultNinthNot() {
        Doc.says("Terms 3", "the ninth ! likewise, each by itself);");
        right(1, "cost !!!!!!!!h");
        fault(13, "cost !!!!!!!!!h");
        fault(13, "cost !!!!!!!!!");
        fault(13, "cost !!!!!!!!");
        right(1, "cost ! ! ! ! ! ! ! ! h");
        fault(21, "cost ! ! ! ! ! ! ! ! ! h");
        // Behind a piece they are closed.
        right(2, "cost !!!!!!!!h+!!!!!!!!n");
        fault(23, "cost !!!!!!!!h+!!!!!!!!!n");
        right(9, "cost !h+!h+!h+!h+!h+!h+!h+!h+!h");
        // Within others by way of brackets: they stand open until the bracket is closed.
        right(1, "cost !!!!(!!!!h)");
        fault(14, "cost !!!!(!!!!!h)");
        right(2, "cost !!!!(!!!!h)+!!!!!!!!n");
        right(2, "cost !!!!(h)+!!!!!!!!n");
        right(1, "cost !(!(!(!(!(!(!(!h)))))))");
        // Each by itself: eight of both.
        right(1, "cost !(!(!(!(!(!(!(!(h))))))))");
        right(1, "cost !!!!!!!!((((((((h))))))))");
        right(1, "cost ((((((((!!!!!!!!h))))))))");
        fault(21, "cost !!!!!!!!(((((((((h)))))))))");
        fault(21, "cost ((((((((!!!!!!!!!h))))))))");
    }

    private static void faultAtTheEnd() {
        Doc.says("Terms 3", "the end (the place behind the last byte), if it comes too soon.");
        fault(0, "");
        fault(1, " ");
        fault(96, " ".repeat(96));
        fault(4, "cost");
        fault(5, "cost ");
        fault(96, "cost" + " ".repeat(92));
        fault(7, "cost h+");
        fault(10, "cost h+   ");
        fault(7, "cost (h");
        fault(9, "cost (h  ");
        fault(8, "cost ((h");
        fault(9, "cost ((h)");
        fault(6, "cost !");
        fault(96, "cost h" + "+h".repeat(44) + " +");
    }

    private static void intsWrap() {
        Doc.says("Terms 3", "Ints wrap;");
        // 2147483647 is 4096 * 4096 * 128 - 1, where 4096 * 4096 * 128 is the least int.
        gives(1, "4096*4096*128<0");
        gives(1, "4096*4096*128-1>0");
        gives(1, "4096*4096*128-1+1<0");
        gives(1, "0-4096*4096*128=4096*4096*128");
        gives(1, "4096*4096*128+4096*4096*128=0");
        gives(1, "4096*4096*256=0");
        gives(5, "4096*4096*256+5");
        gives(1, "4096*4096*128/(0-1)=4096*4096*128");
        gives(1, "4096*4096*128/(0-1)<0");
        gives(2, "(4096*4096*128-1)*2+4");
        gives(9999, "(4096*4096*128-1)/2");
    }

    private static void divisionBy0() {
        Doc.says("Terms 3", "/ is 0 by 0;");
        gives(0, "7/0");
        gives(5, "7/0+5");
        gives(0, "0/0");
        gives(0, "(0-7)/0");
        gives(0, "h/(h-20)");
        gives(0, "4096*4096*128/0");
        gives(3, "7/(0/5)+3");
        BookBoards x = new BookBoards();
        x.book(2010, 0);
        x.book(2010, 1);
        Due.text(x, "grow 8/p");
        Due.text(x, "walk 9/p");
        Due.row(Due.of(28, 22 + 9), x.most(1, 1), x.apart(20));
    }

    private static void truths() {
        Doc.says("Terms 3", "tests, & | ! give 1 or 0 (what is not 0 is true; both sides are worked out).");
        gives(1, "2<3");
        gives(0, "3<3");
        gives(0, "4<3");
        gives(0, "2=3");
        gives(1, "3=3");
        gives(0, "2>3");
        gives(0, "3>3");
        gives(1, "4>3");
        gives(1, "0-1<0");
        gives(1, "0>0-1");
        gives(1, "5&7");
        gives(1, "1&2");
        gives(0, "5&0");
        gives(0, "0&5");
        gives(0, "0&0");
        gives(1, "5|7");
        gives(1, "5|0");
        gives(1, "0|5");
        gives(0, "0|0");
        gives(1, "(0-1)&(0-2)");
        gives(1, "(0-1)|0");
        gives(1, "!0");
        gives(0, "!1");
        gives(0, "!9");
        gives(0, "!(0-1)");
        gives(1, "!!9");
        gives(0, "!!0");
        // Without a sign it stays as it is.
        gives(9, "9");
        gives(9, "(9)");
        // Both sides are worked out, and a division by 0 in one of them is 0.
        gives(1, "1|7/0");
        gives(0, "0&7/0");
        gives(0, "7/0|0");
        gives(1, "1|0|0");
        gives(0, "1&1&0");
        gives(1, "1&2&3");
    }

    private static void toldLast() {
        Doc.says("Terms 3", "Of a KEY that TEXT counts that was told last.");
        BookBoards x = new BookBoards();
        x.book(2010, 1);
        Due.row(Due.of(22, 27, 11), x.setting(-2), x.apart(20), x.most(1, 1));
        for (int i = 0; i < 4; i++) {
            Due.text(x, "cost " + (50 + i));
            Due.text(x, "walk " + (60 + i));
            Due.text(x, "grow " + (70 + i));
            Due.row(Due.of(3 * i, 3 * i + 1, 3 * i + 2), x.why(0), x.why(1), x.why(2));
            Due.row(Due.of(50 + i, 110 + 2 * i, 80 + i), x.setting(-2), x.apart(20), x.most(1, 1));
        }
        // One with a fault does not count, nor one for which there is no room.
        Due.is(-106, Due.text(x, "cost 1)"));
        Due.row(Due.of(9, 53), x.why(0), x.setting(-2));
        Due.text(x, "cost 1");
        Due.text(x, "cost 2");
        Due.row(Due.of(FULL, 13, 2), Due.text(x, "cost 3"), x.why(0), x.setting(-2));
        // Behind back(), those of the image count.
        BookBoards y = new BookBoards();
        y.book(2010, 1);
        Due.text(y, "cost 5");
        y.keep();
        Due.text(y, "cost 6");
        Due.text(y, "walk 7");
        Due.row(Due.of(1, 2, 6), y.why(0), y.why(1), y.setting(-2));
        y.back();
        Due.row(Due.of(0, NONE, 5), y.why(0), y.why(1), y.setting(-2));
        Due.text(y, "walk 8");
        Due.row(Due.of(0, 1, 13), y.why(0), y.why(1), y.apart(20));
    }
}
