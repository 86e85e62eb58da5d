/** The boundary cases of promises 1 to 11 and of point 1 of the Terms: walls, what they are read as, words. */
final class WallBoundsTest {
    private static final Due DUE = new Due();
    private static final int BEYOND = Due.BEYOND;
    private static final int FULL = Due.FULL;
    private static final int KIND = Due.KIND;
    private static final int MIN = Integer.MIN_VALUE;
    private static final int MAX = Integer.MAX_VALUE;

    public static void main(String[] args) {
        DUE.test("at most 512 calls", WallBoundsTest::calls);
        DUE.test("ERRORS are answers below -1000000", WallBoundsTest::errors);
        DUE.test("promise 1: all as at first", WallBoundsTest::atFirst);
        DUE.test("LETTERS are 1 .. 26; 0 is an opening", WallBoundsTest::letters);
        DUE.test("WALLS 0, 1, .. (at most 6)", WallBoundsTest::walls);
        DUE.test("rows of 0 .. 24 bricks", WallBoundsTest::bricks);
        DUE.test("of KINDS 0 .. 6, each with a number m (0 .. 9)", WallBoundsTest::kinds);
        DUE.test("promise 2: FULL, behind BEYOND", WallBoundsTest::wallFull);
        DUE.test("promise 3: what 0 .. 7", WallBoundsTest::wallIs);
        DUE.test("promise 4: nor of one under it", WallBoundsTest::as);
        DUE.test("promise 5: KIND (what 0), m (1)", WallBoundsTest::set);
        DUE.test("promises 6, 7: a place of a WALL", WallBoundsTest::places);
        DUE.test("promise 8: also no such one", WallBoundsTest::readAs);
        DUE.test("a row of at most 48 LETTERS", WallBoundsTest::longest);
        DUE.test("those that are OPEN left out", WallBoundsTest::openLeftOut);
        DUE.test("BACK: from its end to its begin", WallBoundsTest::back);
        DUE.test("SECOND: places 1, 3, 5, .. of that row left out", WallBoundsTest::second);
        DUE.test("CORNER: the WALL m, if there is one", WallBoundsTest::cornerOfNone);
        DUE.test("CORNER: and it is another one", WallBoundsTest::cornerOfItself);
        DUE.test("CORNER: those not OPEN, in order, whatever its KIND", WallBoundsTest::cornerOfAnyKind);
        DUE.test("TURNED: 27 - l", WallBoundsTest::turned);
        DUE.test("FACED: as CORNER, from its end to its begin", WallBoundsTest::faced);
        DUE.test("TOLD: else 1, if that is none", WallBoundsTest::toldNone);
        DUE.test("TURNS: without a TEXT l", WallBoundsTest::toldWithout);
        DUE.test("TURNS: i its place, n how many, m m", WallBoundsTest::toldNames);
        DUE.test("WORDS 0, 1, .. (at most 12), of a SORT 0 .. 4", WallBoundsTest::words);
        DUE.test("promise 9: FULL, behind BEYOND", WallBoundsTest::wordFull);
        DUE.test("1 .. 6 LETTERS", WallBoundsTest::wordLetters);
        DUE.test("promise 11: SORT (i -1), how many (i -2), the i-th one", WallBoundsTest::wordIs);
        DUE.end();
    }

    private static void is(String call, long want, long got) {
        DUE.is(call, want, got);
    }

    private static void rowIs(String what, String want, LetterWalls x, int wall) {
        DUE.rowIs(what, want, x, wall);
    }

    private static void calls() {
        LetterWalls x = new LetterWalls();
        for (int i = 1; i < 512; i++) {
            is("call " + i, BEYOND, x.told(0));
        }
        is("the 512th call", 511, x.told(1));
    }

    private static void errors() {
        LetterWalls x = new LetterWalls();
        is("BEYOND", -1000001, x.wallIs(0, 0));
        is("NONE", -1000002, x.restore());
        is("STATE", -1000003, x.sheet(0, 8, -1));
        for (int i = 0; i < 6; i++) {
            x.wall(0, 1);
        }
        is("FULL", -1000004, x.wall(0, 1));
        is("KIND", -1000005, x.as(0, 1));
        is("PARTED", -1000006, x.voice(0, 3, 1));
        x.seed(-1000000);
        is("LOW is none", -1000000, x.count(6));
        x.seed(-1000001);
        is("a number like an ERROR is none", -1000001, x.count(6));
        for (int k = 1; k <= 6; k++) {
            is("told " + k, 1, x.told(k));
        }
    }

    private static void atFirst() {
        LetterWalls x = new LetterWalls();
        for (int what = 0; what < 6; what++) {
            is("count " + what, 0, x.count(what));
        }
        for (int l = 1; l <= 26; l++) {
            is("heap " + l, 0, x.heap(l, -1));
        }
        is("z", 1, x.count(6));
        is("season", 0, x.have(0, 0));
        is("purse", 100, x.have(1, 0));
        is("images", 1, x.image());
        for (int k = 1; k <= 6; k++) {
            is("told " + k, 0, x.told(k));
        }
        is("no WALL", BEYOND, x.wallIs(0, 0));
        is("no WORD", BEYOND, x.wordIs(0, -1));
    }

    private static LetterWalls oneWall() {
        LetterWalls x = new LetterWalls();
        x.wall(0, 3);
        x.word(0, 7);
        return x;
    }

    private static void letters() {
        DUE.range("brick's letter", 0, 26, l -> oneWall().brick(0, 2, l));
        DUE.range("word's letter", 1, 26, l -> oneWall().word(0, l));
        DUE.range("letter's letter", 1, 26, l -> oneWall().letter(0, l));
        LetterWalls x = oneWall();
        for (int l = 1; l <= 26; l++) {
            x.brick(0, 0, l);
            is("LETTER " + l, l, x.readAs(0, 0));
        }
        is("was 26", 26, x.brick(0, 0, 0));
        is("OPEN", 0, x.wallIs(0, 3));
    }

    private static LetterWalls walls(int n) {
        LetterWalls x = new LetterWalls();
        for (int i = 0; i < n; i++) {
            is("number of the next WALL", i, x.wall(i, i));
            is("WALLS", i + 1, x.count(0));
        }
        return x;
    }

    private static void walls() {
        for (int n : new int[] {1, 2, 6}) {
            DUE.range("wallIs of " + n, 0, n - 1, w -> walls(n).wallIs(w, 2));
            DUE.range("as of " + n, 0, n - 1, w -> walls(n).as(w, 0));
            DUE.range("set of " + n, 0, n - 1, w -> walls(n).set(w, 1, 4));
        }
        LetterWalls x = walls(6);
        for (int w = 0; w < 6; w++) {
            is("each has its m", w, x.wallIs(w, 1));
            is("each has its bricks", w, x.wallIs(w, 2));
        }
    }

    private static void bricks() {
        DUE.range("wall's n", 0, 24, n -> new LetterWalls().wall(0, n));
        for (int n : new int[] {0, 1, 24}) {
            LetterWalls x = new LetterWalls();
            x.wall(0, n);
            is("how many", n, x.wallIs(0, 2));
            for (int i = 0; i < n; i++) {
                is("all OPEN", 0, x.brickOf(0, i));
            }
            is("none behind", BEYOND, x.brickOf(0, n));
        }
    }

    private static void kinds() {
        DUE.range("wall's km", 0, 69, km -> new LetterWalls().wall(km, 1));
        int[][] due = {{0, 0, 0}, {9, 0, 9}, {10, 1, 0}, {19, 1, 9}, {60, 6, 0}, {69, 6, 9}};
        for (int[] one : due) {
            LetterWalls x = new LetterWalls();
            x.wall(one[0], 1);
            is("KIND of " + one[0], one[1], x.wallIs(0, 0));
            is("m of " + one[0], one[2], x.wallIs(0, 1));
        }
        is("km below 0 that cuts to 0", BEYOND, new LetterWalls().wall(-9, 1));
        DUE.range("set's KIND", 0, 6, v -> oneWall().set(0, 0, v));
        DUE.range("set's m", 0, 9, v -> oneWall().set(0, 1, v));
        for (int kind : new int[] {MIN, -1, 7, MAX}) {
            is("as's KIND by " + kind, BEYOND, oneWall().as(0, kind));
        }
        is("as's KIND by 6", KIND, oneWall().as(0, 6));
    }

    private static void wallFull() {
        LetterWalls x = walls(5);
        is("the sixth", 5, x.wall(69, 24));
        is("the seventh", FULL, x.wall(0, 0));
        is("km ahead of FULL", BEYOND, x.wall(70, 0));
        is("km below ahead of FULL", BEYOND, x.wall(-1, 0));
        is("n ahead of FULL", BEYOND, x.wall(0, 25));
        is("n below ahead of FULL", BEYOND, x.wall(0, -1));
        is("still six", 6, x.count(0));
    }

    private static void wallIs() {
        DUE.range("wallIs's what", 0, 7, what -> oneWall().wallIs(0, what));
        LetterWalls x = oneWall();
        int[] open = {0, 0, 3, 0, 0, 0, 0, 0};
        int[] empty = {0, 5, 0, 0, 0, 0, 0, 0};
        x.wall(5, 0);
        for (int what = 0; what <= 7; what++) {
            is("all OPEN, " + what, open[what], x.wallIs(0, what));
            is("no bricks, " + what, empty[what], x.wallIs(1, what));
        }
    }

    private static void as() {
        String[] under = {"0", "01", "02", "03", "014", "035", "06"};
        for (int kind = 0; kind < 7; kind++) {
            LetterWalls x = new LetterWalls();
            x.wall(10 * kind, 24);
            for (int as = 0; as < 7; as++) {
                boolean is = under[kind].indexOf('0' + as) >= 0;
                is(kind + " as " + as, is ? 24 : KIND, x.as(0, as));
            }
            is("ahead of KIND", BEYOND, x.as(0, 7));
            is("ahead of KIND", BEYOND, x.as(0, -1));
            is("ahead of KIND", BEYOND, x.as(1, kind));
        }
        LetterWalls x = new LetterWalls();
        x.wall(50, 0);
        is("no bricks", 0, x.as(0, 3));
    }

    private static void set() {
        DUE.range("set's what", 0, 1, what -> oneWall().set(0, what, 1));
        LetterWalls x = oneWall();
        is("what it was", 0, x.set(0, 0, 6));
        is("the highest KIND", 6, x.set(0, 0, 0));
        is("what it was", 0, x.set(0, 1, 9));
        is("the highest m", 9, x.set(0, 1, 0));
        is("a KIND is not 7", BEYOND, x.set(0, 0, 7));
        is("an m may be 7", 0, x.set(0, 1, 7));
        is("the KIND stays", 0, x.wallIs(0, 0));
    }

    private static void places() {
        for (int n : new int[] {1, 24}) {
            DUE.range("brick's place of " + n, 0, n - 1, p -> bricked(n).brick(0, p, 3));
            DUE.range("brickOf's place of " + n, 0, n - 1, p -> bricked(n).brickOf(0, p));
        }
        DUE.range("brick's wall", 0, 0, w -> bricked(1).brick(w, 0, 3));
        DUE.range("brickOf's wall", 0, 0, w -> bricked(1).brickOf(w, 0));
        is("no bricks", BEYOND, bricked(0).brick(0, 0, 3));
        is("no bricks", BEYOND, bricked(0).brickOf(0, 0));
        LetterWalls x = bricked(24);
        is("last was", 0, x.brick(0, 23, 9));
        is("first was", 0, x.brick(0, 0, 8));
        is("last", 9, x.brickOf(0, 23));
        is("first", 8, x.brickOf(0, 0));
        is("the one ahead of the last", 0, x.brickOf(0, 22));
    }

    private static LetterWalls bricked(int n) {
        LetterWalls x = new LetterWalls();
        x.wall(0, n);
        return x;
    }

    private static void readAs() {
        for (int n : new int[] {1, 24}) {
            DUE.range("readAs's i of " + n, 0, n - 1, i -> {
                LetterWalls x = new LetterWalls();
                Due.wallOf(x, 0, n, 4);
                return x.readAs(0, i);
            });
        }
        DUE.range("readAs's wall", 0, 0, w -> {
            LetterWalls x = new LetterWalls();
            Due.wallOf(x, 0, 1, 4);
            return x.readAs(w, 0);
        });
        LetterWalls x = oneWall();
        is("none, all OPEN", BEYOND, x.readAs(0, 0));
        x.brick(0, 2, 6);
        is("the first", 6, x.readAs(0, 0));
        is("places that are OPEN are none", BEYOND, x.readAs(0, 1));
    }

    private static void longest() {
        LetterWalls x = new LetterWalls();
        Due.wallOf(x, 31, 24, 2);
        Due.wallOf(x, 50, 24, 3);
        for (int w = 0; w < 2; w++) {
            is("48 LETTERS", 48, x.wallIs(w, 3));
            is("the first", 2, x.readAs(w, 0));
            is("the 24th", 2, x.readAs(w, 23));
            is("the 25th", 3, x.readAs(w, 24));
            is("the last", 3, x.readAs(w, 47));
            is("none behind", BEYOND, x.readAs(w, 48));
        }
    }

    private static void openLeftOut() {
        LetterWalls x = new LetterWalls();
        Due.wall(x, 0, 0, 1, 0, 0, 2, 0);
        for (int kind : new int[] {0, 3, 6}) {
            x.set(0, 0, kind);
            rowIs("KIND " + kind, "1 2 ", x, 0);
        }
        x.brick(0, 1, 0);
        x.brick(0, 4, 0);
        for (int kind = 0; kind < 7; kind++) {
            x.set(0, 0, kind);
            rowIs("all OPEN, KIND " + kind, "", x, 0);
        }
    }

    private static void back() {
        LetterWalls x = new LetterWalls();
        Due.wall(x, 10, 7);
        rowIs("one", "7 ", x, 0);
        Due.wall(x, 10, 0, 7, 0, 8);
        rowIs("two", "8 7 ", x, 1);
        Due.wall(x, 10, 7, 8, 9);
        rowIs("three", "9 8 7 ", x, 2);
        Due.wallOf(x, 10, 24, 5);
        x.brick(3, 0, 6);
        is("the last of 24", 6, x.readAs(3, 23));
        is("the first of 24", 5, x.readAs(3, 0));
    }

    private static void second() {
        LetterWalls x = new LetterWalls();
        String[] due = {"", "1 ", "1 ", "1 3 ", "1 3 ", "1 3 5 "};
        for (int n = 0; n < 6; n++) {
            x.wall(20, n);
            for (int i = 0; i < n; i++) {
                x.brick(n, i, i + 1);
            }
            rowIs("of " + n, due[n], x, n);
        }
        x.brick(5, 0, 0);
        rowIs("of that row, not of the bricks", "2 4 ", x, 5);
        LetterWalls y = new LetterWalls();
        Due.wallOf(y, 20, 24, 5);
        Due.wallOf(y, 20, 23, 5);
        is("of 24", 12, y.wallIs(0, 3));
        is("of 23", 12, y.wallIs(1, 3));
    }

    private static void cornerOfNone() {
        LetterWalls x = new LetterWalls();
        Due.wall(x, 32, 1, 2);
        Due.wall(x, 0, 3);
        rowIs("m is one more than the last WALL", "1 2 ", x, 0);
        x.set(0, 1, 9);
        rowIs("m is 9", "1 2 ", x, 0);
        x.set(0, 1, 1);
        rowIs("m is the last WALL", "1 2 3 ", x, 0);
        x.set(0, 1, 2);
        Due.wall(x, 0, 4);
        rowIs("m has come", "1 2 4 ", x, 0);
        for (int i = 3; i < 6; i++) {
            Due.wall(x, 0, 20 + i);
        }
        x.set(0, 1, 5);
        rowIs("m is 5 of six", "1 2 25 ", x, 0);
        x.set(0, 1, 6);
        rowIs("m is 6 of six", "1 2 ", x, 0);
    }

    private static void cornerOfItself() {
        LetterWalls x = new LetterWalls();
        Due.wall(x, 30, 1, 2);
        Due.wall(x, 30, 3);
        Due.wall(x, 52, 4, 5);
        rowIs("CORNER 0 of 0", "1 2 ", x, 0);
        rowIs("CORNER 1 of 0", "3 1 2 ", x, 1);
        rowIs("FACED 2 of 2", "5 4 ", x, 2);
        x.set(0, 1, 1);
        rowIs("each of the other", "1 2 3 ", x, 0);
        rowIs("each of the other", "3 1 2 ", x, 1);
        for (int kind : new int[] {0, 1, 2, 4, 6}) {
            x.set(1, 0, kind);
            is("no CORNER: KIND " + kind, 1, x.wallIs(1, 3));
        }
    }

    private static void cornerOfAnyKind() {
        LetterWalls x = new LetterWalls();
        Due.wall(x, 31, 1);
        Due.wall(x, 0, 0, 2, 3, 0, 4, 0);
        Due.text(x, 0, "9");
        for (int kind = 0; kind < 7; kind++) {
            x.set(1, 0, kind);
            rowIs("WALL m of KIND " + kind, "1 2 3 4 ", x, 0);
        }
        x.falls(1);
        rowIs("WALL m all OPEN", "1 ", x, 0);
        x.falls(0);
        rowIs("both all OPEN", "", x, 0);
        x.brick(1, 0, 5);
        rowIs("the WALL all OPEN, not m", "5 ", x, 0);
        x.wall(0, 0);
        x.set(0, 1, 2);
        rowIs("WALL m has no bricks", "", x, 0);
    }

    private static void turned() {
        LetterWalls x = new LetterWalls();
        Due.wall(x, 40, 1, 0, 26, 13, 14);
        rowIs("1, 26, 13, 14", "13 14 1 26 ", x, 0);
    }

    private static void faced() {
        LetterWalls x = new LetterWalls();
        Due.wall(x, 51, 1, 2);
        rowIs("without WALL m", "2 1 ", x, 0);
        Due.wall(x, 0, 3, 0, 4);
        rowIs("with WALL m", "4 3 2 1 ", x, 0);
    }

    private static void toldIs(String turns, String due, int... bricks) {
        LetterWalls x = new LetterWalls();
        Due.wall(x, 67, bricks);
        is("text " + turns, 1, Due.text(x, 0, turns));
        rowIs(turns, due, x, 0);
    }

    private static void toldNone() {
        toldIs("l-1", "1 1 25 ", 1, 2, 26);
        toldIs("l+1", "2 26 1 ", 1, 25, 26);
        toldIs("0", "1 ", 9);
        toldIs("26", "26 ", 9);
        toldIs("27", "1 ", 9);
        toldIs("0-1", "1 ", 9);
        toldIs("8192*4*8192*8", "1 ", 9);
        toldIs("8192*4*8192*8-1", "1 ", 9);
        toldIs("8192*8*8192*8+7", "7 ", 9);
        toldIs("9/0", "1 ", 9);
    }

    private static void toldWithout() {
        LetterWalls x = new LetterWalls();
        Due.wall(x, 60, 1, 26);
        rowIs("never told", "1 26 ", x, 0);
        Due.text(x, 0, "5");
        rowIs("told", "5 5 ", x, 0);
        for (int kind = 0; kind < 4; kind++) {
            x.set(0, 0, kind);
            is("KIND " + kind + " is not TOLD", kind == 1 ? 26 : 1, x.readAs(0, 0));
        }
        x.set(0, 0, 6);
        x.untell(0);
        rowIs("told no more", "1 26 ", x, 0);
    }

    private static void toldNames() {
        toldIs("i+1", "1 2 3 ", 9, 0, 9, 9);
        toldIs("n", "3 3 3 ", 9, 0, 9, 9);
        toldIs("n", "1 ", 9);
        toldIs("m", "7 7 ", 9, 9);
        toldIs("l*2", "2 26 ", 1, 13);
        LetterWalls x = new LetterWalls();
        Due.wallOf(x, 60, 24, 3);
        Due.text(x, 0, "i");
        is("the first place", 1, x.readAs(0, 0));
        is("the last place", 23, x.readAs(0, 23));
        Due.text(x, 0, "n+2");
        is("24 of them", 26, x.readAs(0, 23));
        Due.text(x, 0, "m+1");
        is("m 0", 1, x.readAs(0, 0));
        x.set(0, 1, 9);
        is("m 9", 10, x.readAs(0, 0));
    }

    private static LetterWalls words(int n) {
        LetterWalls x = new LetterWalls();
        for (int i = 0; i < n; i++) {
            is("number of the next WORD", i, x.word(i % 5, i + 1));
            is("WORDS", i + 1, x.count(1));
        }
        return x;
    }

    private static void words() {
        DUE.range("word's sort", 0, 4, sort -> new LetterWalls().word(sort, 1));
        for (int n : new int[] {1, 2, 12}) {
            DUE.range("wordIs of " + n, 0, n - 1, w -> words(n).wordIs(w, -1));
            DUE.range("letter of " + n, 0, n - 1, w -> words(n).letter(w, 1));
        }
        LetterWalls x = words(12);
        for (int w = 0; w < 12; w++) {
            is("each has its SORT", w % 5, x.wordIs(w, -1));
            is("each has one LETTER", 1, x.wordIs(w, -2));
            is("each has its LETTER", w + 1, x.wordIs(w, 0));
        }
    }

    private static void wordFull() {
        LetterWalls x = words(11);
        is("the twelfth", 11, x.word(4, 26));
        is("the thirteenth", FULL, x.word(0, 1));
        is("sort ahead of FULL", BEYOND, x.word(5, 1));
        is("sort below ahead of FULL", BEYOND, x.word(-1, 1));
        is("letter ahead of FULL", BEYOND, x.word(0, 27));
        is("letter 0 ahead of FULL", BEYOND, x.word(0, 0));
        is("still twelve", 12, x.count(1));
    }

    private static void wordLetters() {
        LetterWalls x = new LetterWalls();
        x.word(0, 1);
        x.word(0, 7);
        for (int i = 2; i <= 6; i++) {
            is("letter " + i, i, x.letter(0, i));
        }
        is("the seventh", FULL, x.letter(0, 7));
        is("letter ahead of FULL", BEYOND, x.letter(0, 27));
        is("letter 0 ahead of FULL", BEYOND, x.letter(0, 0));
        is("word ahead of FULL", BEYOND, x.letter(2, 1));
        is("still six", 6, x.wordIs(0, -2));
        is("another has room", 2, x.letter(1, 26));
        LetterWalls y = Due.plain();
        Due.word(y, 0, 1, 2, 3, 4, 5, 6);
        Due.wall(y, 0, 1, 2, 3, 4, 5, 6, 2, 4);
        is("six LETTERS are one WORD", 1, y.wallIs(0, 4));
        y.brick(0, 5, 7);
        is("all six count", 0, y.wallIs(0, 4));
    }

    private static void wordIs() {
        LetterWalls x = new LetterWalls();
        Due.word(x, 4, 21);
        Due.word(x, 0, 11, 12, 13, 14, 15, 16);
        is("SORT", 4, x.wordIs(0, -1));
        is("SORT", 0, x.wordIs(1, -1));
        is("how many", 1, x.wordIs(0, -2));
        is("how many", 6, x.wordIs(1, -2));
        is("the first", 21, x.wordIs(0, 0));
        is("the last", 16, x.wordIs(1, 5));
        is("below -2", BEYOND, x.wordIs(0, -3));
        is("behind one", BEYOND, x.wordIs(0, 1));
        is("behind six", BEYOND, x.wordIs(1, 6));
        is("far below", BEYOND, x.wordIs(0, MIN));
        is("far behind", BEYOND, x.wordIs(0, MAX));
    }
}
