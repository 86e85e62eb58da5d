import java.util.regex.Pattern;

/** The boundary cases of promises 15 to 21 and of LAWS, WAYS, SAYS, STUCK: what reads, what is said, what may be other. */
final class ReadingBoundsTest {
    private static final Due DUE = new Due();
    private static final int BEYOND = Due.BEYOND;
    private static final int NONE = Due.NONE;
    // The SORTS of Due.plain(): WHO 1, MAY 2, NOT 3, DOES 4, AND 5.
    private static final Pattern LAW = Pattern.compile("123?4(5123?4)*");
    private static final Pattern LAW_GOES_ON = Pattern.compile("(123?45)*(|1|12|123|123?4)");

    public static void main(String[] args) {
        DUE.test("a LAW: CLAUSE { AND CLAUSE }; CLAUSE: WHO MAY [ NOT ] DOES", ReadingBoundsTest::everyRow);
        DUE.test("a LAW of many clauses", ReadingBoundsTest::manyClauses);
        DUE.test("a row READS if its LETTERS, all of them", ReadingBoundsTest::allLetters);
        DUE.test("no WORDS, or not of every SORT", ReadingBoundsTest::lackingSorts);
        DUE.test("one WORD may be told twice", ReadingBoundsTest::toldTwice);
        DUE.test("WAYS: held at 999999", ReadingBoundsTest::ways);
        DUE.test("SAYS: that which is first, WORD by WORD by numbers", ReadingBoundsTest::firstSaid);
        DUE.test("STUCK: from its begin, as far as a LAW goes on", ReadingBoundsTest::stuck);
        DUE.test("STUCK: whole WORDS alone", ReadingBoundsTest::stuckInsideWord);
        DUE.test("promise 15: the i-th WORD (i -1: how many)", ReadingBoundsTest::says);
        DUE.test("promise 15: NONE ahead of BEYOND of i", ReadingBoundsTest::saysNone);
        DUE.test("promise 16: w 1 .. 12", ReadingBoundsTest::doorWidths);
        DUE.test("DOORS: i from 0 on, all of them within the WALL", ReadingBoundsTest::doorPlaces);
        DUE.test("DOORS: as they may be already", ReadingBoundsTest::openDoors);
        DUE.test("SPARE: places of LETTERS without which alone it READS", ReadingBoundsTest::spare);
        DUE.test("OTHERS: bits 1 .. 26", ReadingBoundsTest::othersLetters);
        DUE.test("OTHERS: not the one that stands there", ReadingBoundsTest::othersStands);
        DUE.test("promise 18: at a place", ReadingBoundsTest::othersPlace);
        DUE.test("STEPS: a LETTER for another LETTER", ReadingBoundsTest::steps);
        DUE.test("promises 17, 19, 20: a WALL", ReadingBoundsTest::wallNumbers);
        DUE.test("MENDS: the fewest, none to all", ReadingBoundsTest::mends);
        DUE.test("promise 20: NONE: no LAW is so long", ReadingBoundsTest::mendsNone);
        DUE.test("promise 21: BEYOND: WALL, SHEET", ReadingBoundsTest::wishNumbers);
        DUE.test("promise 21: NONE: it is missing", ReadingBoundsTest::wishMissing);
        DUE.test("promise 21: BEYOND: a number that is no WORD", ReadingBoundsTest::wishNoWord);
        DUE.test("promise 21: NONE: it is not as long", ReadingBoundsTest::wishLength);
        DUE.test("promise 21: a SHEET's numbers, all of them", ReadingBoundsTest::wishAll);
        DUE.end();
    }

    private static void is(String call, long want, long got) {
        DUE.is(call, want, got);
    }

    /** Bricks by digits; 0 is OPEN. */
    private static int wall(LetterWalls x, int km, String digits) {
        return Due.wall(x, km, digits.chars().map(digit -> digit - '0').toArray());
    }

    private static LetterWalls plainWall(String digits) {
        LetterWalls x = Due.plain();
        wall(x, 0, digits);
        return x;
    }

    private static void rowIs(String digits) {
        LetterWalls x = plainWall(digits);
        int law = LAW.matcher(digits).matches() ? 1 : 0;
        int stuck = digits.length();
        while (!LAW_GOES_ON.matcher(digits.substring(0, stuck)).matches()) {
            stuck--;
        }
        is("READS " + digits, law, x.wallIs(0, 4));
        is("WAYS " + digits, law, x.wallIs(0, 5));
        is("STUCK " + digits, stuck, x.wallIs(0, 6));
        is("SAYS " + digits, law == 1 ? digits.length() : NONE, x.says(0, -1));
    }

    private static void everyRow() {
        int rows = 1;
        for (int n = 0; n <= 6; n++) {
            for (int i = 0; i < rows; i++) {
                StringBuilder digits = new StringBuilder();
                for (int at = 0, rest = i; at < n; at++, rest /= 5) {
                    digits.append(rest % 5 + 1);
                }
                rowIs(digits.toString());
            }
            rows *= 5;
        }
    }

    private static void manyClauses() {
        for (String digits : new String[] {"1245124", "12451234", "12345124", "123451234", "12451245124", "1245124512345",
            "124512451245124512451234", "12451245124512451245124", "1245", "12455124", "1245512", "12451245",
            "1241245124", "124512412", "1245123345", "124512344", "51245124", "124512451245124512451245"}) {
            rowIs(digits);
        }
    }

    private static void allLetters() {
        for (String digits : new String[] {"1249", "9124", "1294", "12492", "124512491"}) {
            is("READS " + digits, 0, plainWall(digits).wallIs(0, 4));
        }
        is("OPEN places don't count", 1, plainWall("0102040").wallIs(0, 4));
        is("no LETTERS", 0, plainWall("").wallIs(0, 4));
        is("all OPEN", 0, plainWall("000").wallIs(0, 4));
    }

    private static void lackingSorts() {
        LetterWalls none = new LetterWalls();
        wall(none, 0, "124");
        is("no WORDS", 0, none.wallIs(0, 4));
        is("no WAYS", 0, none.wallIs(0, 5));
        is("STUCK at once", 0, none.wallIs(0, 6));
        is("SAYS nothing", NONE, none.says(0, -1));
        is("no MENDS", NONE, none.mends(0));
        for (int lacking = 0; lacking < 5; lacking++) {
            LetterWalls x = new LetterWalls();
            for (int sort = 0; sort < 5; sort++) {
                if (sort != lacking) {
                    x.word(sort, sort + 1);
                }
            }
            wall(x, 0, "124");
            wall(x, 0, "1234");
            wall(x, 0, "1245124");
            is("without SORT " + lacking, lacking == 2 || lacking == 4 ? 1 : 0, x.wallIs(0, 4));
            is("a NOT without SORT " + lacking, lacking == 4 ? 1 : 0, x.wallIs(1, 4));
            is("an AND without SORT " + lacking, lacking == 2 ? 1 : 0, x.wallIs(2, 4));
        }
    }

    private static void toldTwice() {
        LetterWalls x = new LetterWalls();
        for (int sort : new int[] {0, 1, 3}) {
            x.word(sort, 7);
        }
        wall(x, 0, "777");
        is("with another SORT", 1, x.wallIs(0, 5));
        is("two WORDS", 12, x.says(0, 1) * 10 + x.says(0, 2));
        x.word(3, 7);
        is("with the same SORT, too", 2, x.wallIs(0, 5));
        is("the first of them", 2, x.says(0, 2));
    }

    /** A WALL of so many bricks of LETTER 7, which so many WORDS of WHO, MAY, NOT, DOES, AND are. */
    private static int waysOf(int bricks, int... bySort) {
        LetterWalls x = new LetterWalls();
        for (int sort = 0; sort < 5; sort++) {
            for (int i = 0; i < bySort[sort]; i++) {
                x.word(sort, 7);
            }
        }
        Due.wallOf(x, 31, Math.min(bricks, 24), 7);
        Due.wallOf(x, 0, Math.max(bricks - 24, 0), 7);
        is("READS by " + bricks, x.wallIs(0, 5) == 0 ? 0 : 1, x.wallIs(0, 4));
        return x.wallIs(0, 5);
    }

    private static void ways() {
        is("one CLAUSE", 10, waysOf(3, 1, 2, 0, 5, 1));
        is("none", 0, waysOf(4, 1, 2, 0, 5, 1));
        is("two CLAUSES", 100, waysOf(7, 1, 2, 0, 5, 1));
        is("five CLAUSES", 100000, waysOf(19, 1, 2, 0, 5, 1));
        is("9 ^ 5 * 2 ^ 4", 944784, waysOf(19, 1, 3, 0, 3, 2));
        is("a million, held", 999999, waysOf(23, 1, 2, 0, 5, 1));
        is("27 ^ 12 * 3 ^ 11, held", 999999, waysOf(47, 3, 3, 0, 3, 3));
        is("by 48, held", 999999, waysOf(48, 2, 2, 2, 2, 2));
        is("none of 46 without a NOT", 0, waysOf(46, 3, 3, 0, 3, 3));
        is("one of 47", 1, waysOf(47, 1, 1, 0, 1, 1));
    }

    private static void firstSaid() {
        LetterWalls x = new LetterWalls();
        x.word(3, 7);
        Due.word(x, 1, 7, 7);
        x.word(1, 7);
        x.word(0, 7);
        Due.word(x, 0, 7, 7);
        x.word(3, 7);
        wall(x, 0, "7777");
        is("two rows by two DOES", 4, x.wallIs(0, 5));
        is("the lower WHO", 3, x.says(0, 0));
        is("then the lower MAY", 1, x.says(0, 1));
        is("then the lower DOES", 0, x.says(0, 2));
        x.brick(0, 3, 0);
        is("the lower MAY leads astray", 2, x.says(0, 1));
    }

    private static void stuck() {
        String[] rows = {"", "1", "2", "12", "11", "124", "1245", "12451", "12455", "12344", "1239", "12451249", "9124"};
        int[] due = {0, 1, 0, 2, 1, 3, 4, 5, 4, 4, 3, 7, 0};
        for (int i = 0; i < rows.length; i++) {
            is("STUCK " + rows[i], due[i], plainWall(rows[i]).wallIs(0, 6));
        }
        LetterWalls x = Due.plain();
        Due.wallOf(x, 31, 24, 9);
        Due.wallOf(x, 0, 24, 9);
        is("48 LETTERS, at once", 0, x.wallIs(0, 6));
        Due.word(x, 0, 9);
        Due.word(x, 1, 9);
        Due.word(x, 3, 9);
        Due.word(x, 4, 9);
        is("48 LETTERS to the end", 48, x.wallIs(0, 6));
        is("but no LAW", 0, x.wallIs(0, 4));
    }

    private static void stuckInsideWord() {
        LetterWalls x = new LetterWalls();
        Due.word(x, 0, 1, 1, 1);
        Due.word(x, 1, 2, 2, 2, 2, 2, 2);
        String[] rows = {"11", "111", "1112", "11122222", "111222222", "1112222222"};
        int[] due = {0, 3, 3, 3, 9, 9};
        for (int i = 0; i < rows.length; i++) {
            wall(x, 0, rows[i]);
            is("STUCK " + rows[i], due[i], x.wallIs(i, 6));
        }
        LetterWalls y = new LetterWalls();
        Due.word(y, 0, 1);
        Due.word(y, 0, 1, 1, 1);
        Due.word(y, 1, 1);
        wall(y, 0, "1111");
        wall(y, 0, "111");
        is("the greatest of 1, 2, 3, 4", 4, y.wallIs(0, 6));
        is("the greatest of 1, 2, 3", 3, y.wallIs(1, 6));
    }

    private static void says() {
        for (String digits : new String[] {"124", "124512451245124512451234"}) {
            DUE.range("says's i of " + digits, -1, digits.length() - 1, i -> plainWall(digits).says(0, i));
            is("how many", digits.length(), plainWall(digits).says(0, -1));
            is("the last", 3, plainWall(digits).says(0, digits.length() - 1));
            is("the first", 0, plainWall(digits).says(0, 0));
        }
        DUE.range("says's wall", 0, 0, w -> plainWall("124").says(w, 0));
        LetterWalls x = Due.plain();
        Due.wallOf(x, 31, 24, 9);
        Due.wallOf(x, 0, 24, 9);
        for (int sort = 0; sort < 5; sort++) {
            x.word(sort, 9);
        }
        is("48 WORDS", 48, x.says(0, -1));
        is("the last of 48", 8, x.says(0, 47));
        is("none behind", BEYOND, x.says(0, 48));
    }

    private static void saysNone() {
        LetterWalls x = plainWall("125");
        for (int i : new int[] {-1, 0, 2, 3, Integer.MAX_VALUE}) {
            is("i " + i, NONE, x.says(0, i));
        }
        for (int i : new int[] {-2, Integer.MIN_VALUE}) {
            is("i below -1, ahead of NONE: " + i, BEYOND, x.says(0, i));
        }
        is("WALL ahead of NONE", BEYOND, x.says(1, 0));
    }

    private static void doorWidths() {
        DUE.range("doors's w", 1, 12, w -> plainWall("124").doors(0, w));
        DUE.range("doors's wall", 0, 0, w -> plainWall("124").doors(w, 1));
    }

    /** A CORNER under which a LAW stands: it READS if all of its own bricks are OPEN. */
    private static LetterWalls aboveLaw(String digits) {
        LetterWalls x = Due.plain();
        wall(x, 31, digits);
        wall(x, 0, "124");
        return x;
    }

    private static void doorPlaces() {
        is("12 of 11", 0, aboveLaw("99999999999").doors(0, 12));
        is("12 of 12", 1, aboveLaw("999999999999").doors(0, 12));
        is("11 of 12", 0, aboveLaw("999999999999").doors(0, 11));
        is("12 of 13, the first", 1, aboveLaw("9999999999990").doors(0, 12));
        is("12 of 13, the second", 2, aboveLaw("0999999999999").doors(0, 12));
        is("12 of 13, none", 0, aboveLaw("9999999999999").doors(0, 12));
        is("1 of 1", 1, aboveLaw("9").doors(0, 1));
        is("2 of 1", 0, aboveLaw("9").doors(0, 2));
        is("1 of no bricks", 0, aboveLaw("").doors(0, 1));
        is("the last of 24", 1 << 23, aboveLaw("0".repeat(23) + "9").doors(0, 1));
        is("the first of 24", 1, aboveLaw("9" + "0".repeat(23)).doors(0, 1));
        is("the last two of 24", 1 << 22, aboveLaw("0".repeat(22) + "99").doors(0, 2));
        LetterWalls x = plainWall("91924");
        is("all bricks of it OPEN", 0, x.doors(0, 1));
        is("nothing is changed", 5, x.wallIs(0, 3));
    }

    private static void openDoors() {
        is("24 by 1", (1 << 24) - 1, aboveLaw("0".repeat(24)).doors(0, 1));
        is("24 by 12", (1 << 13) - 1, aboveLaw("0".repeat(24)).doors(0, 12));
        is("12 by 12", 1, aboveLaw("0".repeat(12)).doors(0, 12));
        is("only OPEN ones", 0b00010, plainWall("10024").doors(0, 2));
        is("an OPEN one, then another", 0b00100, plainWall("12094").doors(0, 2));
        is("another, then an OPEN one", 0b00100, plainWall("12904").doors(0, 2));
        is("both", 0b01100, plainWall("120304").doors(0, 2));
    }

    private static void spare() {
        is("the first of 24", 1, aboveLaw("9" + "0".repeat(23)).spare(0));
        is("the last of 24", 1 << 23, aboveLaw("0".repeat(23) + "9").spare(0));
        is("none that is OPEN", 0, aboveLaw("0".repeat(24)).spare(0));
        is("one alone", 0, aboveLaw("99").spare(0));
        is("of a LAW the NOT", 0b0100, plainWall("1234").spare(0));
        is("of a LAW nothing", 0, plainWall("124").spare(0));
        is("behind OPEN places", 0b010000, plainWall("012034").spare(0));
        is("no bricks", 0, plainWall("").spare(0));
        LetterWalls two = plainWall("112234");
        Due.word(two, 0, 1, 1);
        Due.word(two, 1, 2, 2);
        is("five places", 0b011111, two.spare(0));
        LetterWalls x = plainWall("1294");
        is("what spoils it", 0b0100, x.spare(0));
        is("nothing is changed", 9, x.brickOf(0, 2));
    }

    private static LetterWalls manyDoes(String digits) {
        LetterWalls x = plainWall(digits);
        x.word(3, 1);
        x.word(3, 26);
        return x;
    }

    private static void othersLetters() {
        is("the first and the last LETTER", 1 << 1 | 1 << 26, manyDoes("124").others(0, 2));
        is("in an OPEN place", 1 << 1 | 1 << 4 | 1 << 26, manyDoes("120").others(0, 2));
        is("no bit 0 where OPEN READS", 0, manyDoes("1249").others(0, 3) & 1);
        is("where OPEN READS", 0, manyDoes("1249").others(0, 3));
        LetterWalls x = Due.plain();
        wall(x, 20, "192940");
        is("all LETTERS", (1 << 27) - 2, x.others(0, 5));
    }

    /** A SECOND of 24 bricks whose LETTERS in the places that it keeps are a LAW. */
    private static LetterWalls secondWall() {
        LetterWalls x = Due.plain();
        wall(x, 20, "192949591929495919293949");
        return x;
    }

    private static void othersStands() {
        is("not DOES 4", 0, manyDoes("124").others(0, 2) & 1 << 4);
        LetterWalls x = manyDoes("124");
        x.brick(0, 2, 26);
        is("not DOES 26", 1 << 1 | 1 << 4, x.others(0, 2));
        x.brick(0, 2, 1);
        is("not DOES 1", 1 << 26 | 1 << 4, x.others(0, 2));
        is("nothing is changed", 1, x.brickOf(0, 2));
        is("25 others", (1 << 27) - 2 - (1 << 9), secondWall().others(0, 1));
    }

    private static void othersPlace() {
        DUE.range("others's place of 24", 0, 23, p -> secondWall().others(0, p));
        DUE.range("others's place of 1", 0, 0, p -> plainWall("1").others(0, p));
        DUE.range("others's wall", 0, 0, w -> plainWall("1").others(w, 0));
        is("no bricks", BEYOND, plainWall("").others(0, 0));
        is("the first place", 1 << 1, plainWall("924").others(0, 0));
        is("the last place", 1 << 4, plainWall("129").others(0, 2));
    }

    private static void steps() {
        is("none", 0, plainWall("124").steps(0));
        is("one", 1, plainWall("129").steps(0));
        is("the first place", 1, plainWall("924").steps(0));
        is("none from two unlike", 0, plainWall("199").steps(0));
        is("no LETTER for OPEN", 0, plainWall("120").steps(0));
        is("no OPEN for a LETTER", 0, plainWall("1249").steps(0));
        is("no bricks", 0, plainWall("").steps(0));
        is("two, LETTERS 1 and 26", 2, manyDoes("124").steps(0));
        is("three", 3, manyDoes("129").steps(0));
        is("12 places by 25", 300, secondWall().steps(0));
        LetterWalls x = secondWall();
        x.brick(0, 23, 0);
        is("11 places by 25", 275, x.steps(0));
    }

    private static void wallNumbers() {
        DUE.range("spare's wall", 0, 0, w -> plainWall("124").spare(w));
        DUE.range("steps's wall", 0, 0, w -> plainWall("124").steps(w));
        DUE.range("mends's wall", 0, 0, w -> plainWall("124").mends(w));
    }

    private static void mends() {
        String[] rows = {"124", "129", "199", "999", "1234", "9999", "1294", "1249", "1245124", "4215421", "99999999"};
        int[] due = {0, 1, 2, 3, 0, 4, 1, 2, 0, 4, 8};
        for (int i = 0; i < rows.length; i++) {
            is("MENDS " + rows[i], due[i], plainWall(rows[i]).mends(0));
        }
        LetterWalls x = Due.plain();
        Due.wallOf(x, 31, 24, 9);
        Due.wallOf(x, 0, 24, 9);
        is("all 48", 48, x.mends(0));
        x.falls(1);
        is("all 24", 24, x.mends(0));
        is("nothing is changed", 9, x.brickOf(0, 23));
    }

    private static void mendsNone() {
        int[] due = {NONE, NONE, NONE, 3, 4, NONE, NONE, 7, 8, 9, NONE, 11, 12, 13, 14, 15};
        for (int n = 0; n < due.length; n++) {
            is("by " + n, due[n], plainWall("9".repeat(n)).mends(0));
        }
        LetterWalls x = new LetterWalls();
        Due.word(x, 0, 1, 1, 1, 1, 1, 1);
        Due.word(x, 1, 1, 1, 1, 1, 1, 1);
        Due.word(x, 3, 1, 1, 1, 1, 1, 1);
        for (int n = 17; n <= 19; n++) {
            wall(x, 0, "9".repeat(n));
            is("by " + n, n == 18 ? 18 : NONE, x.mends(n - 17));
        }
    }

    private static LetterWalls wished(String digits, int... words) {
        LetterWalls x = plainWall(digits);
        Due.sheet(x, 0, 32, words);
        return x;
    }

    private static void wishNumbers() {
        DUE.range("wish's wall", 0, 0, w -> wished("124", 0, 1, 3).wish(w, 0));
        DUE.range("wish's sheet", 0, 3, s -> {
            LetterWalls x = wished("124", 0, 1, 3);
            Due.sheet(x, 3, 8, 0, 1, 3);
            return x.wish(0, s);
        });
        is("WALL ahead of missing", BEYOND, wished("124").wish(1, 1));
    }

    private static void wishMissing() {
        LetterWalls x = wished("124", 0, 1, 3);
        for (int sheet = 1; sheet < 4; sheet++) {
            is("SHEET " + sheet, NONE, x.wish(0, sheet));
        }
        x.sheet(0, 0, 3);
        is("SHEET 0 no more", NONE, x.wish(0, 0));
        x.sheet(0, 8, 3);
        is("SHEET 0 again, all WORD 0", 2, x.wish(0, 0));
    }

    private static void wishNoWord() {
        DUE.range("wish's WORD", 0, 4, word -> wished("124", 0, 1, word).wish(0, 0));
        is("the first", BEYOND, wished("124", 5, 1, 3).wish(0, 0));
        is("ahead of too long", BEYOND, wished("124", 0, 1, 3, 3, 5).wish(0, 0));
        is("ahead of too short", BEYOND, wished("1245", 0, 5).wish(0, 0));
        LetterWalls x = wished("124");
        Due.sheet(x, 0, 8, 256, 257, 259);
        is("the lowest 8 bits", 0, x.wish(0, 0));
        Due.sheet(x, 0, 16, 256, 257, 259);
        is("of 16 bits all", BEYOND, x.wish(0, 0));
        LetterWalls none = new LetterWalls();
        wall(none, 0, "1");
        none.sheet(0, 8, 1);
        is("no WORDS", BEYOND, none.wish(0, 0));
    }

    private static void wishLength() {
        is("as long", 0, wished("124", 0, 1, 3).wish(0, 0));
        is("one too few", NONE, wished("124", 0, 1).wish(0, 0));
        is("one too many", NONE, wished("124", 0, 1, 3, 3).wish(0, 0));
        is("nothing for three", NONE, wished("124").wish(0, 0));
        is("nothing for nothing", 0, wished("000").wish(0, 0));
        is("one for nothing", NONE, wished("", 0).wish(0, 0));
        LetterWalls x = wished("129999999", 0, 5);
        Due.word(x, 1, 2, 9, 9, 9, 9, 9);
        is("LETTERS, not WORDS: 7 for 9", NONE, x.wish(0, 0));
        x.brick(0, 8, 0);
        is("7 for 8", NONE, x.wish(0, 0));
        x.brick(0, 7, 0);
        is("7 for 7", 0, x.wish(0, 0));
        x.brick(0, 6, 0);
        is("7 for 6", NONE, x.wish(0, 0));
    }

    private static void wishAll() {
        LetterWalls x = wished("9".repeat(24));
        x.sheet(0, 32, 24);
        is("24 unlike", 24, x.wish(0, 0));
        x.brick(0, 23, 1);
        is("the last is like", 23, x.wish(0, 0));
        x.brick(0, 0, 1);
        is("the first, too", 22, x.wish(0, 0));
        LetterWalls y = new LetterWalls();
        Due.word(y, 0, 1, 2);
        Due.wallOf(y, 31, 24, 2);
        Due.wallOf(y, 0, 24, 1);
        y.sheet(0, 8, 24);
        is("48 LETTERS by 24 WORDS", 24, y.wish(0, 0));
        y.sheet(0, 8, 23);
        is("by 23 WORDS", NONE, y.wish(0, 0));
        is("a WISH needn't be a LAW", 3, wished("999", 3, 3, 3).wish(0, 0));
    }
}
