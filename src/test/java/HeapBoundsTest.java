/** The boundary cases of promises 22 to 29 and of point 3 of the Terms: THE HEAP, PURSE, BUILDS, YEARS, DRAWS. */
final class HeapBoundsTest {
    private static final Due DUE = new Due();
    private static final int BEYOND = Due.BEYOND;
    private static final int STATE = Due.STATE;
    private static final int MIN = Integer.MIN_VALUE;
    private static final int MAX = Integer.MAX_VALUE;

    public static void main(String[] args) {
        DUE.test("THE HEAP: 0 .. 99 each; -1: it stays", HeapBoundsTest::heap);
        DUE.test("promise 22: a LETTER", HeapBoundsTest::heapLetters);
        DUE.test("SEASON (0 .. 3; 0 at first)", HeapBoundsTest::season);
        DUE.test("PURSE (0 .. 99999; 100 at first)", HeapBoundsTest::purse);
        DUE.test("promise 24: what 0, 1", HeapBoundsTest::haveWhat);
        DUE.test("promise 25: BEYOND", HeapBoundsTest::layBeyond);
        DUE.test("promise 25: STATE: the place isn't OPEN", HeapBoundsTest::layNotOpen);
        DUE.test("promise 25: STATE: there is no such brick", HeapBoundsTest::layNoBrick);
        DUE.test("promise 25: STATE: PURSE is too small", HeapBoundsTest::layPurse);
        DUE.test("promise 25: how many LETTERS the WALL has then", HeapBoundsTest::layCount);
        DUE.test("a FALL: 99 at most each; what is more is lost", HeapBoundsTest::falls);
        DUE.test("promise 26: how many LETTERS it had", HeapBoundsTest::fallsCount);
        DUE.test("promise 27: k 1 .. 7, what 0, 1", HeapBoundsTest::buildsArguments);
        DUE.test("BUILDS: at most k WORDS", HeapBoundsTest::buildsWords);
        DUE.test("BUILDS: whose LETTERS THE HEAP has", HeapBoundsTest::buildsHeap);
        DUE.test("BUILDS: the FIRST, as digits by 16 (0: none)", HeapBoundsTest::buildsFirst);
        DUE.test("promise 28: n (1 .. 20) YEARS", HeapBoundsTest::years);
        DUE.test("a YEAR: SEASON by a draw's rest by 4", HeapBoundsTest::yearSeason);
        DUE.test("a YEAR: PURSE is 50 more (99999 at most)", HeapBoundsTest::yearPurse);
        DUE.test("a YEAR: of each WALL that has a LETTER a draw", HeapBoundsTest::yearDraws);
        DUE.test("a YEAR: its rest by how many bricks", HeapBoundsTest::yearPlace);
        DUE.test("a YEAR: if it is a LETTER and without it the WALL READS", HeapBoundsTest::yearFalls);
        DUE.test("a YEAR: that brick falls to THE HEAP (99 at most)", HeapBoundsTest::yearHeap);
        DUE.test("DRAWS: z * 1103515245 + 12345 (an int), z >>> 8", HeapBoundsTest::draws);
        DUE.test("promise 29: any number", HeapBoundsTest::seed);
        DUE.end();
    }

    private static void is(String call, long want, long got) {
        DUE.is(call, want, got);
    }

    private static LetterWalls heaped(int letter, int v) {
        LetterWalls x = new LetterWalls();
        is("heap of none", 0, x.heap(letter, v));
        return x;
    }

    private static void heap() {
        DUE.range("heap's v", -1, 99, v -> new LetterWalls().heap(1, v));
        for (int v : new int[] {0, 1, 98, 99}) {
            LetterWalls x = heaped(7, v);
            is("stays", v, x.heap(7, -1));
            is("as it was", v, x.heap(7, 0));
            is("none then", 0, x.heap(7, -1));
        }
        LetterWalls x = new LetterWalls();
        for (int l = 1; l <= 26; l++) {
            x.heap(l, 99);
        }
        is("all of them full", 2574, x.count(2));
    }

    private static void heapLetters() {
        DUE.range("heap's letter", 1, 26, l -> new LetterWalls().heap(l, 1));
        LetterWalls x = heaped(1, 3);
        x.heap(26, 4);
        is("the first LETTER", 3, x.heap(1, -1));
        is("the last LETTER", 4, x.heap(26, -1));
        is("both", 7, x.count(2));
        is("others have none", 0, x.heap(2, -1) + x.heap(25, -1));
    }

    private static void season() {
        DUE.range("have's SEASON", 0, 3, v -> new LetterWalls().have(0, v));
        LetterWalls x = new LetterWalls();
        is("at first", 0, x.have(0, 3));
        is("the highest", 3, x.have(0, 0));
        is("the lowest", 0, x.have(0, 1));
        is("PURSE is another", 100, x.have(1, 100));
    }

    private static void purse() {
        DUE.range("have's PURSE", 0, 99999, v -> new LetterWalls().have(1, v));
        LetterWalls x = new LetterWalls();
        is("at first", 100, x.have(1, 99999));
        is("the greatest", 99999, x.have(1, 0));
        is("the least", 0, x.have(1, 4));
        is("SEASON is another", 0, x.have(0, 0));
    }

    private static void haveWhat() {
        DUE.range("have's what", 0, 1, what -> new LetterWalls().have(what, 0));
    }

    private static LetterWalls open(int bricks) {
        LetterWalls x = new LetterWalls();
        x.wall(0, bricks);
        x.heap(1, 9);
        x.heap(26, 9);
        return x;
    }

    private static void layBeyond() {
        for (int buys = 0; buys <= 1; buys++) {
            int how = buys;
            DUE.range("lay's wall", 0, 0, w -> open(3).lay(w, 0, 1, how));
            DUE.range("lay's place", 0, 2, p -> open(3).lay(0, p, 1, how));
            DUE.range("lay's place of 24", 0, 23, p -> open(24).lay(0, p, 1, how));
            DUE.range("lay's letter", 1, 26, l -> open(3).lay(0, 0, l, how));
            is("no bricks", BEYOND, open(0).lay(0, 0, 1, how));
        }
        DUE.range("lay's buys", 0, 1, buys -> open(3).lay(0, 0, 1, buys));
        LetterWalls x = open(3);
        x.brick(0, 0, 5);
        is("letter ahead of STATE", BEYOND, x.lay(0, 0, 0, 0));
        is("buys ahead of STATE", BEYOND, x.lay(0, 0, 1, 2));
    }

    private static void layNotOpen() {
        LetterWalls x = open(2);
        x.brick(0, 0, 5);
        for (int buys = 0; buys <= 1; buys++) {
            is("not OPEN", STATE, x.lay(0, 0, 1, buys));
            is("the same LETTER", STATE, x.lay(0, 0, 5, buys));
        }
        is("it stays", 5, x.brickOf(0, 0));
        is("THE HEAP stays", 9, x.heap(1, -1));
        is("PURSE stays", 100, x.have(1, 100));
        is("the OPEN one beside it", 2, x.lay(0, 1, 1, 0));
        is("OPEN no more", STATE, x.lay(0, 1, 1, 0));
        is("OPEN again", 1, x.brick(0, 1, 0));
        is("so it is LAID", 2, x.lay(0, 1, 1, 0));
    }

    private static void layNoBrick() {
        LetterWalls x = open(3);
        x.heap(1, 1);
        is("the last one", 1, x.lay(0, 0, 1, 0));
        is("none is left", 0, x.heap(1, -1));
        is("no such brick", STATE, x.lay(0, 1, 1, 0));
        is("it stays OPEN", 0, x.brickOf(0, 1));
        is("THE HEAP isn't below 0", 0, x.heap(1, 2));
        is("the first of two", 2, x.lay(0, 1, 1, 0));
        is("one is left", 1, x.heap(1, -1));
        is("PURSE doesn't matter", 100, x.have(1, 0));
        is("laid for nothing", 3, x.lay(0, 2, 26, 0));
    }

    private static void layPurse() {
        int[][] priceAndPurse = {{0, 0}, {1, 0}, {1, 1}, {7, 6}, {7, 7}, {7, 8}, {999, 998}, {999, 999}, {999, 99999}};
        for (int[] one : priceAndPurse) {
            int price = one[0];
            int purse = one[1];
            String told = "PRICE " + price + ", PURSE " + purse;
            LetterWalls x = open(1);
            x.heap(1, 0);
            Due.text(x, 1, "" + price);
            x.have(1, purse);
            is(told, price <= purse ? 1 : STATE, x.lay(0, 0, 1, 1));
            is(told + ": the brick", price <= purse ? 1 : 0, x.brickOf(0, 0));
            is(told + ": left", price <= purse ? purse - price : purse, x.have(1, 0));
            is(told + ": THE HEAP stays", 0, x.heap(1, -1));
        }
        LetterWalls x = open(1);
        x.have(1, 3);
        x.have(0, 3);
        is("LETTER 5 in SEASON 3", STATE, x.lay(0, 0, 5, 1));
        x.have(0, 2);
        is("LETTER 5 in SEASON 2", 1, x.lay(0, 0, 5, 1));
        is("all is paid", 0, x.have(1, 0));
    }

    private static void layCount() {
        LetterWalls x = open(24);
        x.heap(1, 99);
        for (int i = 0; i < 24; i++) {
            is("LETTERS", i + 1, x.lay(0, 23 - i, 1, i % 2));
        }
        x.falls(0);
        is("one after the FALL", 1, x.lay(0, 0, 1, 0));
    }

    private static void falls() {
        for (int had : new int[] {0, 96, 97, 98, 99}) {
            LetterWalls x = new LetterWalls();
            Due.wall(x, 0, 7, 26, 0, 7);
            x.heap(7, had);
            is("falls", 3, x.falls(0));
            is("7 after " + had, Math.min(99, had + 2), x.heap(7, -1));
            is("26", 1, x.heap(26, -1));
            for (int i = 0; i < 4; i++) {
                is("OPEN", 0, x.brickOf(0, i));
            }
        }
        DUE.range("falls's wall", 0, 0, w -> open(3).falls(w));
    }

    private static void fallsCount() {
        LetterWalls x = new LetterWalls();
        Due.wallOf(x, 0, 24, 1);
        x.wall(0, 0);
        x.wall(20, 3);
        is("24", 24, x.falls(0));
        is("all of them in THE HEAP", 24, x.heap(1, -1));
        is("none again", 0, x.falls(0));
        is("no bricks", 0, x.falls(1));
        is("all OPEN", 0, x.falls(2));
        Due.wall(x, 20, 3, 3, 3, 0);
        is("those that it isn't READ AS, too", 3, x.falls(3));
        is("THE HEAP", 27, x.count(2));
    }

    private static LetterWalls builder(int ofEach) {
        LetterWalls x = Due.plain();
        for (int l = 1; l <= 5; l++) {
            x.heap(l, ofEach);
        }
        return x;
    }

    private static void buildsArguments() {
        DUE.range("builds's k", 1, 7, k -> builder(2).builds(k, 0));
        DUE.range("builds's what", 0, 1, what -> builder(2).builds(7, what));
        DUE.range("builds's k for the FIRST", 1, 7, k -> builder(2).builds(k, 1));
    }

    private static void buildsWords() {
        int[] due = {0, 0, 1, 2, 2, 2, 3};
        for (int k = 1; k <= 7; k++) {
            is("how many by " + k, due[k - 1], builder(99).builds(k, 0));
            is("FIRST by " + k, k < 3 ? 0 : 0x124, builder(99).builds(k, 1));
        }
        LetterWalls x = new LetterWalls();
        for (int i = 0; i < 12; i++) {
            x.word(new int[] {0, 1, 3, 4}[i / 3], 9);
        }
        x.heap(9, 99);
        is("27 of 3", 27, x.builds(3, 0));
        is("27 of 3 in 6", 27, x.builds(6, 0));
        is("27 * 3 * 27 of 7", 27 + 2187, x.builds(7, 0));
        is("no WORDS", 0, new LetterWalls().builds(7, 0) + new LetterWalls().builds(7, 1));
    }

    private static void buildsHeap() {
        is("none of each", 0, builder(0).builds(7, 0));
        is("one of each", 2, builder(1).builds(7, 0));
        is("two of each", 3, builder(2).builds(7, 0));
        for (int lacking : new int[] {1, 2, 4}) {
            LetterWalls x = builder(2);
            x.heap(lacking, 1);
            is("one " + lacking, 2, x.builds(7, 0));
            x.heap(lacking, 0);
            is("no " + lacking, 0, x.builds(7, 0));
        }
        LetterWalls x = builder(2);
        x.heap(5, 0);
        is("no AND", 2, x.builds(7, 0));
        x.heap(3, 0);
        is("no NOT", 1, x.builds(7, 0));
        LetterWalls y = new LetterWalls();
        Due.word(y, 0, 1, 1, 1, 1, 1, 1);
        Due.word(y, 1, 1, 1, 1, 1, 1, 1);
        Due.word(y, 3, 1, 1, 1, 1, 1, 26);
        y.heap(26, 1);
        y.heap(1, 16);
        is("one too few of 17", 0, y.builds(3, 0));
        y.heap(1, 17);
        is("just 17", 1, y.builds(3, 0));
        y.heap(26, 0);
        is("the last LETTER lacks", 0, y.builds(3, 0));
        is("THE HEAP stays", 17, y.heap(1, -1));
    }

    private static void buildsFirst() {
        is("none", 0, builder(0).builds(7, 1));
        LetterWalls x = new LetterWalls();
        for (int i = 0; i < 9; i++) {
            x.word(4, 26);
        }
        Due.word(x, 3, 3);
        Due.word(x, 1, 2);
        Due.word(x, 0, 1);
        x.heap(1, 1);
        x.heap(2, 1);
        x.heap(3, 1);
        is("WORDS 11, 10, 9", 0xCBA, x.builds(3, 1));
        LetterWalls y = new LetterWalls();
        for (int sort : new int[] {4, 0, 2, 1, 3, 0, 1, 3}) {
            y.word(sort, 1 + y.count(1));
            y.heap(y.count(1), 1);
        }
        is("the fewest WORDS, then by numbers", 0x245, y.builds(7, 1));
        y.heap(2, 0);
        is("another WHO", 0x645, y.builds(7, 1));
        y.heap(2, 1);
        y.heap(4, 0);
        is("another MAY", 0x275, y.builds(7, 1));
        y.heap(4, 1);
        y.heap(5, 0);
        is("another DOES", 0x248, y.builds(7, 1));
        Due.word(y, 3, 26, 26);
        Due.word(y, 3, 26);
        Due.word(y, 3, 26);
        y.heap(8, 0);
        y.heap(26, 1);
        is("the lowest that THE HEAP has", 0x24A, y.builds(7, 1));
        y.heap(2, 0);
        y.heap(6, 0);
        is("none, though there was one", 0, y.builds(7, 1));
    }

    private static int drawn(int from, int times) {
        int z = from;
        for (int i = 0; i < times; i++) {
            z = z * 1103515245 + 12345;
        }
        return z;
    }

    private static void years() {
        DUE.range("years's n", 1, 20, n -> new LetterWalls().years(n));
        LetterWalls x = new LetterWalls();
        is("one", 0, x.years(1));
        is("a draw", drawn(1, 1), x.count(6));
        is("twenty", 0, x.years(20));
        is("twenty draws more", drawn(1, 21), x.count(6));
        is("twenty times 50 more", 1150, x.have(1, 0));
    }

    private static void yearSeason() {
        boolean[] seen = new boolean[4];
        for (int z = -40; z < 40; z++) {
            LetterWalls x = new LetterWalls();
            x.seed(z);
            x.have(0, z & 3);
            x.years(1);
            int due = (drawn(z, 1) >>> 8) % 4;
            is("SEASON from " + z, due, x.have(0, 0));
            seen[due] = true;
        }
        is("all four", 1, seen[0] && seen[1] && seen[2] && seen[3] ? 1 : 0);
    }

    private static void yearPurse() {
        int[] had = {0, 99948, 99949, 99950, 99999};
        int[] due = {50, 99998, 99999, 99999, 99999};
        for (int i = 0; i < had.length; i++) {
            LetterWalls x = new LetterWalls();
            x.have(1, had[i]);
            x.years(1);
            is("PURSE after " + had[i], due[i], x.have(1, 0));
        }
    }

    private static void yearDraws() {
        LetterWalls x = new LetterWalls();
        x.wall(0, 0);
        x.wall(0, 24);
        x.years(1);
        is("none of no bricks, none of all OPEN", drawn(1, 1), x.count(6));
        x.brick(1, 23, 9);
        x.years(1);
        is("one of one LETTER", drawn(1, 3), x.count(6));
        for (int i = 0; i < 4; i++) {
            Due.wall(x, 0, 9);
        }
        x.years(1);
        is("five of five", drawn(1, 9), x.count(6));
        x.brick(1, 23, 0);
        x.years(1);
        is("four of four", drawn(1, 14), x.count(6));
    }

    /** A CORNER of one LETTER, all else OPEN, before a WALL that is a LAW: it READS without that LETTER. */
    private static LetterWalls oneFalls(int bricks, int place, int letter) {
        LetterWalls x = Due.plain();
        x.wall(31, bricks);
        Due.wall(x, 0, 1, 2, 4);
        x.brick(0, place, letter);
        return x;
    }

    private static void yearPlace() {
        boolean first = false;
        boolean last = false;
        for (int z = -300; z < 300; z++) {
            LetterWalls x = oneFalls(24, 0, 9);
            x.seed(z);
            int place = (drawn(z, 2) >>> 8) % 24;
            x.brick(0, 0, 0);
            x.brick(0, place, 9);
            is("the place drawn from " + z, 1, x.years(1));
            LetterWalls y = oneFalls(24, (place + 1) % 24, 9);
            y.seed(z);
            is("the place beside it, from " + z, 0, y.years(1));
            first |= place == 0;
            last |= place == 23;
        }
        is("first and last place are seen", 1, first && last ? 1 : 0);
        is("the one of one", 1, oneFalls(1, 0, 9).years(1));
    }

    private static void yearFalls() {
        LetterWalls reads = oneFalls(1, 0, 9);
        is("without it it READS", 1, reads.years(1));
        is("it is OPEN", 0, reads.brickOf(0, 0));
        is("in THE HEAP", 1, reads.heap(9, -1));
        is("never again", 0, reads.years(20));
        LetterWalls not = oneFalls(1, 0, 9);
        not.brick(1, 0, 9);
        is("without it it doesn't READ", 0, not.years(20));
        is("it stands", 9, not.brickOf(0, 0));
        is("none in THE HEAP", 0, not.count(2));
        LetterWalls open = oneFalls(2, 0, 9);
        int z = 0;
        while ((drawn(z, 2) >>> 8) % 2 == 0) {
            z++;
        }
        open.seed(z);
        is("an OPEN place", 0, open.years(1));
        is("is no LETTER that falls", 0, open.count(2));
        LetterWalls six = Due.plain();
        Due.wall(six, 31, 9);
        Due.wall(six, 0, 1, 2, 4);
        for (int i = 2; i < 6; i++) {
            Due.wall(six, 31, 9);
        }
        is("one of each WALL by numbers", 5, six.years(1));
        is("five draws of places, one that didn't fall", drawn(1, 7), six.count(6));
    }

    private static void yearHeap() {
        for (int had : new int[] {0, 97, 98, 99}) {
            LetterWalls x = oneFalls(1, 0, 26);
            x.heap(26, had);
            is("it fell", 1, x.years(1));
            is("THE HEAP after " + had, Math.min(99, had + 1), x.heap(26, -1));
            is("OPEN, though it may be lost", 0, x.brickOf(0, 0));
        }
    }

    private static void draws() {
        LetterWalls x = new LetterWalls();
        x.years(1);
        is("z from 1", 1103527590, x.count(6));
        is("SEASON from 4310654", 2, x.have(0, 0));
        x.years(1);
        is("z wraps", -1770082073, x.count(6));
        x.seed(0);
        x.years(1);
        is("z from 0", 12345, x.count(6));
        x.seed(MIN);
        x.years(1);
        is("z from the least", MIN + 12345, x.count(6));
        is("z >>> 8 isn't below 0", (8388608 + 48) % 4, x.have(0, 0));
        x.seed(MAX);
        x.years(1);
        is("z from the greatest", 1043980748, x.count(6));
    }

    private static void seed() {
        LetterWalls x = new LetterWalls();
        int was = 1;
        for (int v : new int[] {MIN, -1000007, -1000001, -1000000, -1, 0, 1, MAX}) {
            is("was", was, x.seed(v));
            is("is", v, x.count(6));
            was = v;
        }
        is("none is an ERROR", 0, x.told(1));
    }
}
