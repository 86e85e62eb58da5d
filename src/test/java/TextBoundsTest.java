/** The boundary cases of promises 12 to 14 and of point 2 of the Terms: THE TAPE, TEXTS, their FAULTS, what they give. */
final class TextBoundsTest {
    private static final Due DUE = new Due();
    private static final int BEYOND = Due.BEYOND;
    private static final int FULL = Due.FULL;
    private static final int TURNS = 0;
    private static final int PRICE = 1;
    // 2 147 483 648 wraps to the least int.
    private static final String LEAST = "(8192*4*8192*8)";
    private static final String GREATEST = "(8192*4*8192*8-1)";

    public static void main(String[] args) {
        DUE.test("promise 12: the n lowest bytes (1 .. 8)", TextBoundsTest::feed);
        DUE.test("promise 12: the lowest first", TextBoundsTest::lowestFirst);
        DUE.test("bytes, at most 60", TextBoundsTest::tape);
        DUE.test("promise 13: use 0, 1; THE TAPE stays", TextBoundsTest::use);
        DUE.test("promise 13: THE TAPE is empty then", TextBoundsTest::tapeAfter);
        DUE.test("promise 13: in place of one ahead; the one ahead stays", TextBoundsTest::oneAhead);
        DUE.test("promise 14: 1 if there was, else 0", TextBoundsTest::untell);
        DUE.test("FAULT: how many there are, if it ends too early", TextBoundsTest::tooEarly);
        DUE.test("FAULT: the first byte with which no TEXT goes on", TextBoundsTest::everyByte);
        DUE.test("T: A { | A }, A: B { & B }", TextBoundsTest::joins);
        DUE.test("B: S, or S < S, S = S, S > S", TextBoundsTest::oneComparison);
        DUE.test("S: P { + P, - P }, P: Q { * Q, / Q, % Q }", TextBoundsTest::sums);
        DUE.test("a NUMBER of 1 to 4 digits", TextBoundsTest::digits);
        DUE.test("a NAME of the USE", TextBoundsTest::names);
        DUE.test("no blanks", TextBoundsTest::blanks);
        DUE.test("at most 5 of ! and ( are open at once", TextBoundsTest::open);
        DUE.test("ints that wrap", TextBoundsTest::wrap);
        DUE.test("/ cut, % the rest that it leaves", TextBoundsTest::quotients);
        DUE.test("both by 0 are 0", TextBoundsTest::byNothing);
        DUE.test("| & < = > ! are 1 or 0, what is not 0 being true", TextBoundsTest::truth);
        DUE.test("PRICE: held within 0 .. 999", TextBoundsTest::held);
        DUE.test("PRICE: without it 1, and SEASON more for LETTER 5", TextBoundsTest::priceWithout);
        DUE.test("PRICE: l the LETTER, s the SEASON, h how many are in THE HEAP", TextBoundsTest::priceNames);
        DUE.test("promise 23: a LETTER", TextBoundsTest::priceLetter);
        DUE.end();
    }

    private static void is(String call, long want, long got) {
        DUE.is(call, want, got);
    }

    private static LetterWalls taped(String bytes) {
        LetterWalls x = new LetterWalls();
        Due.feed(x, bytes);
        return x;
    }

    private static void feed() {
        DUE.range("feed's n", 1, 8, n -> new LetterWalls().feed(0, n));
        for (int n = 1; n <= 8; n++) {
            LetterWalls x = new LetterWalls();
            is("feed " + n, n, x.feed(0x3131313131313131L, n));
            is("bytes", n, x.count(3));
            is("text of " + n + " digits", n <= 4 ? 1 : -14, x.text(TURNS));
        }
        LetterWalls x = new LetterWalls();
        is("seven", 7, x.feed(0x2B312B312B312B31L, 7));
        is("the eighth stays out", 1, x.text(TURNS));
        is("eight", 8, x.feed(0x2B312B312B312B31L, 8));
        is("the eighth comes", -18, x.text(TURNS));
    }

    private static void lowestFirst() {
        LetterWalls x = new LetterWalls();
        x.feed(0x0034333231L, 4);
        is("text", 1, x.text(TURNS));
        x.feed(0x39382D323131L, 2);
        x.feed(0xFFFFFFFFFFFFFF37L, 1);
        is("text", 1, x.text(PRICE));
        is("117", 117, x.price(1));
        x.feed(-1, 1);
        is("byte 255", -10, x.text(PRICE));
        x.feed(0x80L << 56 | 0x31L, 8);
        is("byte 0", -11, x.text(PRICE));
        x.feed(0xFF31312B31312B31L, 8);
        is("the highest byte", -17, x.text(PRICE));
    }

    private static void tape() {
        for (int n = 1; n <= 8; n++) {
            LetterWalls x = taped("1".repeat(60 - n));
            is("up to 60 by " + n, 60, x.feed(0, n));
            is("one more", FULL, x.feed(0, 1));
            LetterWalls y = taped("1".repeat(61 - n));
            is("up to 61 by " + n, FULL, y.feed(0, n));
            is("still", 61 - n, y.count(3));
            is("n ahead of FULL", BEYOND, y.feed(0, 9));
            is("n 0 ahead of FULL", BEYOND, x.feed(0, 0));
        }
        LetterWalls x = taped("11+" + "1+".repeat(28) + "1");
        is("60 bytes", 60, x.count(3));
        is("of a TEXT", 1, x.text(PRICE));
        is("all are read", 40, x.price(1));
        x = taped("1+".repeat(29) + "77");
        is("a TEXT of 60 bytes", 1, x.text(PRICE));
        is("the last counts", 106, x.price(1));
        x = taped("!0" + "+1".repeat(29));
        is("each of 60 bytes a sign", 1, x.text(PRICE));
        is("each of them counts", 30, x.price(1));
        is("the last is a FAULT", -69, taped("1+".repeat(29) + "7l").text(PRICE));
        is("60 bytes end too early", -70, taped("1+".repeat(30)).text(PRICE));
    }

    private static void use() {
        DUE.range("text's use", 0, 1, use -> taped("1").text(use));
        DUE.range("untell's use", 0, 1, use -> taped("1").untell(use));
        LetterWalls x = taped("7");
        is("below", BEYOND, x.text(-1));
        is("above", BEYOND, x.text(2));
        is("THE TAPE stays", 1, x.count(3));
        is("as it was", 1, x.text(PRICE));
        is("price", 7, x.price(1));
    }

    private static void tapeAfter() {
        LetterWalls x = taped("7");
        is("text", 1, x.text(PRICE));
        is("empty then", 0, x.count(3));
        is("nothing left of it", -10, x.text(PRICE));
        Due.feed(x, "7+");
        is("too early", -12, x.text(PRICE));
        is("empty, too", 0, x.count(3));
        Due.feed(x, "8");
        is("nothing left of it", 1, x.text(PRICE));
        is("price", 8, x.price(1));
        is("a FAULT is no ERROR", 0, x.told(1) + x.told(2) + x.told(3) + x.told(4) + x.told(5) + x.told(6));
    }

    private static void oneAhead() {
        LetterWalls x = taped("70");
        x.text(PRICE);
        is("a FAULT", -12, Due.text(x, PRICE, "9+"));
        is("the one ahead stays", 70, x.price(1));
        is("a FAULT of nothing", -10, x.text(PRICE));
        is("the one ahead stays", 70, x.price(1));
        is("a FAULT of another USE", -10, Due.text(x, TURNS, "s"));
        is("none was there, none is", 0, x.untell(TURNS));
        is("another", 1, Due.text(x, PRICE, "9"));
        is("in place of the one ahead", 9, x.price(1));
        is("one of another USE", 1, Due.text(x, TURNS, "5"));
        is("this one stays", 9, x.price(1));
        for (int i = 0; i < 20; i++) {
            is("another", 1, Due.text(x, PRICE, i % 2 == 0 ? "1+2*3-4+l*0" : "1+2*3-4"));
            is("nothing is left of those ahead", 3, x.price(1));
        }
    }

    private static void untell() {
        LetterWalls x = taped("7");
        is("none 0", 0, x.untell(TURNS));
        is("none 1", 0, x.untell(PRICE));
        x.text(PRICE);
        is("not of TURNS", 0, x.untell(TURNS));
        is("price", 7, x.price(1));
        is("there was", 1, x.untell(PRICE));
        is("none more", 0, x.untell(PRICE));
        is("price", 1, x.price(1));
        is("told anew", 1, Due.text(x, PRICE, "0"));
        is("price", 0, x.price(1));
        is("there was one of 0, too", 1, x.untell(PRICE));
    }

    private static void faultIs(int due, String bytes) {
        is("text " + bytes, due < 0 ? 1 : -10 - due, taped(bytes).text(TURNS));
    }

    private static void fine(String... texts) {
        for (String bytes : texts) {
            faultIs(-1, bytes);
        }
    }

    private static void tooEarly() {
        for (String bytes : new String[] {"", "!", "(", "(l", "l+", "l-", "l*", "l/", "l%", "l|", "l&", "l<", "l=",
            "l>", "!!!!!", "(((((", "(l+(l)", "12+(", "1|2&3<4+5*"}) {
            faultIs(bytes.length(), bytes);
        }
    }

    /** What every one of 256 bytes answers behind some bytes: a FAULT there unless it is one of those that may come. */
    private static void mayCome(String ahead, String may, String endsToo) {
        for (char sign = 0; sign < 256; sign++) {
            boolean ends = endsToo.indexOf(sign) >= 0;
            boolean comes = ends || may.indexOf(sign) >= 0;
            faultIs(ends ? -1 : ahead.length() + (comes ? 1 : 0), ahead + sign);
        }
    }

    private static void everyByte() {
        String operators = "|&<=>+-*/%";
        mayCome("", "!(", "0123456789linm");
        mayCome("!", "!(", "0123456789linm");
        mayCome("l+", "!(", "0123456789linm");
        mayCome("l", operators, "");
        mayCome("1", operators, "0123456789");
        mayCome("123", operators, "0123456789");
        mayCome("1234", operators, "");
        mayCome("1<2", "|&+-*/%", "0123456789");
        mayCome("(l)", operators, "");
        mayCome("(l", operators + ")", ")");
        mayCome("!!!!!", "", "0123456789linm");
        mayCome("(!(!(", "0123456789linm", "");
        mayCome("(!(!(l", operators + ")", "");
    }

    private static void joins() {
        fine("1|1", "1|1|1", "1&1", "1&1&1", "1|1&1|1", "1<2|3>4&5=6|7");
        faultIs(2, "1||1");
        faultIs(2, "1&&1");
        faultIs(2, "1|&1");
        faultIs(0, "|1");
        worth("1|0&0", 1);
        worth("0&0|1", 1);
        worth("0|0&1", 0);
        worth("2=2&3=3", 1);
    }

    private static void oneComparison() {
        fine("1<2", "1=2", "1>2", "1+1<2*2", "(1<2)<3", "1<(2<3)", "1<2&2<3", "1<2|2<3", "1<2&2<3|3<4");
        for (String operator : new String[] {"<", "=", ">"}) {
            faultIs(3, "1<2" + operator + "3");
            faultIs(3, "1=2" + operator + "3");
            faultIs(3, "1>2" + operator + "3");
        }
        faultIs(2, "1<<2");
        faultIs(2, "1<=2");
        faultIs(4, "(1<2=3)");
        worth("(1<2)<3", 1);
        worth("3>(2>1)", 1);
    }

    private static void sums() {
        fine("1", "1+1", "1-1", "1*1", "1/1", "1%1", "1+1-1+1", "1*1/1%1");
        faultIs(0, "-1");
        faultIs(0, "+1");
        faultIs(2, "1--1");
        faultIs(2, "1*-1");
        worth("10-4-3", 3);
        worth("10-4+3", 9);
        worth("100/7/2", 7);
        worth("100%30%4", 2);
        worth("7/2*2", 6);
        worth("2+3*4", 14);
        worth("20-6/3", 18);
        worth("20-7%4", 17);
    }

    private static void digits() {
        fine("0", "9", "10", "99", "999", "1000", "9999", "0000", "0009");
        faultIs(4, "10000");
        faultIs(4, "00000");
        faultIs(9, "9999+12345");
        worth("9", 9);
        worth("0009", 9);
        worth("987", 987);
        worth("9999-9000", 999);
        worth("1234-1000", 234);
    }

    private static void names() {
        for (char sign = 'a'; sign <= 'z'; sign++) {
            is("TURNS by " + sign, "linm".indexOf(sign) >= 0 ? 1 : -10, taped("" + sign).text(TURNS));
            is("PRICE by " + sign, "lsh".indexOf(sign) >= 0 ? 1 : -10, taped("" + sign).text(PRICE));
        }
        faultIs(1, "ll");
        faultIs(1, "l1");
        faultIs(1, "1l");
        faultIs(0, "L");
    }

    private static void blanks() {
        faultIs(0, " l");
        faultIs(1, "l ");
        faultIs(1, "l +1");
        faultIs(2, "l+ 1");
    }

    private static void open() {
        fine("!!!!!l", "(((((l)))))", "!(!(!l))", "(!(!(l)))", "!!!!!1+!!!!!1", "(((((1)))))*(((((1)))))",
            "((((!1+!1))))", "!1+!1+!1+!1+!1+!1", "(1)+(1)+(1)+(1)+(1)+(1)");
        faultIs(5, "!!!!!!l");
        faultIs(5, "((((((l))))))");
        faultIs(5, "!(!(!(l)))");
        faultIs(5, "(!(!(!l)))");
        faultIs(5, "(((((!l)))))");
        faultIs(5, "!!!!!(l)");
        faultIs(12, "!!!!!1+!!!!!!1");
        worth("!!!!!0", 1);
        worth("!!!!0", 0);
        worth("(((((7)))))", 7);
    }

    /** The PRICE of LETTER 5 in SEASON 3, 7 of it in THE HEAP. */
    private static void worth(String bytes, int due) {
        LetterWalls x = new LetterWalls();
        x.have(0, 3);
        x.heap(5, 7);
        is("text " + bytes, 1, Due.text(x, PRICE, bytes));
        is("worth " + bytes, due, x.price(5));
    }

    private static void wrap() {
        worth(LEAST + "<0", 1);
        worth(GREATEST + ">0", 1);
        worth(GREATEST + "+1<0", 1);
        worth(LEAST + "-1>0", 1);
        worth(GREATEST + "+1=" + LEAST, 1);
        worth("0-" + LEAST + "=" + LEAST, 1);
        worth(GREATEST + "*2=0-2", 1);
        worth(LEAST + "*2", 0);
        worth("8192*8*8192*8+5", 5);
    }

    private static void quotients() {
        worth("7/2", 3);
        worth("100+(0-7)/2", 97);
        worth("100+7/(0-2)", 97);
        worth("100+(0-7)/(0-2)", 103);
        worth("1/2", 0);
        worth("(0-1)/2+9", 9);
        worth("7%4", 3);
        worth("100+(0-7)%4", 97);
        worth("100+7%(0-4)", 103);
        worth("100+(0-7)%(0-4)", 97);
        worth(LEAST + "/(0-1)=" + LEAST, 1);
        worth(LEAST + "%(0-1)+6", 6);
        worth(GREATEST + "/" + LEAST + "+6", 6);
    }

    private static void byNothing() {
        worth("7/0+9", 9);
        worth("7%0+9", 9);
        worth("0/0+9", 9);
        worth("0%0+9", 9);
        worth(LEAST + "/0+9", 9);
        worth(LEAST + "%(1-1)+9", 9);
        worth("1|7/0", 1);
        worth("0&7%0", 0);
    }

    private static void truth() {
        worth("1<2", 1);
        worth("2<2", 0);
        worth("3<2", 0);
        worth("1>2", 0);
        worth("2>2", 0);
        worth("3>2", 1);
        worth("1=2", 0);
        worth("2=2", 1);
        worth("0-1<0", 1);
        worth(LEAST + "<" + GREATEST, 1);
        worth("!0", 1);
        worth("!1", 0);
        worth("!9", 0);
        worth("!(0-1)", 0);
        worth("0&0", 0);
        worth("0&1", 0);
        worth("1&0", 0);
        worth("2&4", 1);
        worth("(0-1)&" + LEAST, 1);
        worth("0|0", 0);
        worth("0|2", 1);
        worth("2|0", 1);
        worth("2|4", 1);
        worth("0|(0-1)", 1);
        for (String isFalse : new String[] {"2<2", "3<2", "1=2", "2>2", "1>2", "0&0", "0&1", "1&0", "0|0", "!1", "!9"}) {
            worth("5+(" + isFalse + ")", 5);
        }
        for (String isTrue : new String[] {"1<2", "2=2", "3>2", "2&4", "0|2", "2|0", "2|4", "!0", "!!9"}) {
            worth("5+(" + isTrue + ")", 6);
        }
    }

    private static void held() {
        worth("0-1", 0);
        worth("0", 0);
        worth("1", 1);
        worth("998", 998);
        worth("999", 999);
        worth("1000", 999);
        worth(LEAST, 0);
        worth(GREATEST, 999);
        LetterWalls x = new LetterWalls();
        Due.wall(x, 0, 1, 2, 0);
        Due.text(x, PRICE, "l*1000-1000");
        is("each brick is held", 999, x.wallIs(0, 7));
        x.falls(0);
        is("none costs 0", 0, x.wallIs(0, 7));
        Due.wallOf(x, 0, 24, 26);
        is("24 of the dearest", 24 * 999, x.wallIs(1, 7));
    }

    private static void priceWithout() {
        LetterWalls x = new LetterWalls();
        for (int season = 0; season < 4; season++) {
            x.have(0, season);
            for (int l = 1; l <= 26; l++) {
                is("LETTER " + l + " in SEASON " + season, l == 5 ? 1 + season : 1, x.price(l));
            }
        }
        x.heap(5, 99);
        is("whatever is in THE HEAP", 4, x.price(5));
    }

    private static void priceNames() {
        LetterWalls x = new LetterWalls();
        Due.text(x, PRICE, "l");
        is("the first LETTER", 1, x.price(1));
        is("the last LETTER", 26, x.price(26));
        Due.text(x, PRICE, "s");
        is("SEASON 0", 0, x.price(5));
        x.have(0, 3);
        is("SEASON 3", 3, x.price(26));
        Due.text(x, PRICE, "h");
        is("none in THE HEAP", 0, x.price(26));
        x.heap(26, 99);
        is("99 in THE HEAP", 99, x.price(26));
        is("none of another", 0, x.price(25));
    }

    private static void priceLetter() {
        DUE.range("price's letter", 1, 26, l -> new LetterWalls().price(l));
    }
}
