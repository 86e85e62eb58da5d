/** The boundary cases of promises 30 to 41 and of points 4 and 5 of the Terms: VOICES, SHEETS, IMAGES, what is told. */
final class VoiceBoundsTest {
    private static final Due DUE = new Due();
    private static final int BEYOND = Due.BEYOND;
    private static final int NONE = Due.NONE;
    private static final int STATE = Due.STATE;
    private static final int FULL = Due.FULL;
    private static final int KIND = Due.KIND;
    private static final int PARTED = Due.PARTED;
    private static final int MIN = Integer.MIN_VALUE;
    private static final int MAX = Integer.MAX_VALUE;

    public static void main(String[] args) {
        DUE.test("promise 30: BEYOND", VoiceBoundsTest::voiceBeyond);
        DUE.test("VOICES: ints that wrap", VoiceBoundsTest::voiceWraps);
        DUE.test("quotients are cut toward 0", VoiceBoundsTest::quotients);
        DUE.test("PARTED if that is 0", VoiceBoundsTest::parted);
        DUE.test("that is all that voice() answers then", VoiceBoundsTest::partedBelow);
        DUE.test("the BODY of its KIND, or of the next KIND above that has one", VoiceBoundsTest::bodies);
        DUE.test("k is its number, m as told", VoiceBoundsTest::numbers);
        DUE.test("THE TRACE: as they began, of the latest voice()", VoiceBoundsTest::trace);
        DUE.test("promise 31: NONE: there is none such", VoiceBoundsTest::bodyNone);
        DUE.test("SHEETS 0 .. 3, or missing (as at first)", VoiceBoundsTest::sheetNumbers);
        DUE.test("rows of 8, 16, 32 bits", VoiceBoundsTest::sheetBits);
        DUE.test("at most 24 numbers, all 0", VoiceBoundsTest::sheetSize);
        DUE.test("promise 32: 0: it is missing, n doesn't matter", VoiceBoundsTest::sheetMissing);
        DUE.test("promise 32: STATE: n is below 0 (ahead of BEYOND of n)", VoiceBoundsTest::sheetState);
        DUE.test("promise 33: BEYOND, NONE, BEYOND", VoiceBoundsTest::put);
        DUE.test("promise 33: its lowest bits", VoiceBoundsTest::lowestBits);
        DUE.test("promise 34: BEYOND: no such SHEET. NONE: one is missing. KIND", VoiceBoundsTest::moveSheets);
        DUE.test("promise 34: BEYOND: n, i, or j", VoiceBoundsTest::moveNumbers);
        DUE.test("promise 34: or the same, as they all were", VoiceBoundsTest::moveSame);
        DUE.test("promise 35: BEYOND: SHEET, WALL. NONE", VoiceBoundsTest::bricksErrors);
        DUE.test("promise 35: up to the first that is none", VoiceBoundsTest::bricksNone);
        DUE.test("promise 35: or the end of either", VoiceBoundsTest::bricksEnd);
        DUE.test("promise 36: how often that was done, in place of one ahead", VoiceBoundsTest::image);
        DUE.test("promise 37: NONE: there is none", VoiceBoundsTest::restoreNone);
        DUE.test("promise 37: the IMAGE stays", VoiceBoundsTest::imageStays);
        DUE.test("promise 37: all is as the IMAGE has it", VoiceBoundsTest::allRestored);
        DUE.test("promise 36: but SHEETS, THE TRACE, what told() tells", VoiceBoundsTest::notInImage);
        DUE.test("promise 37: how many WALLS there are", VoiceBoundsTest::restoreWalls);
        DUE.test("promise 38: FULL: 24 wait", VoiceBoundsTest::tell);
        DUE.test("promise 39: else 1 and the place of the first that isn't so", VoiceBoundsTest::check);
        DUE.test("promise 39: one that lacks, or is too many, too", VoiceBoundsTest::checkLength);
        DUE.test("promise 39: BEYOND, NONE; none wait then, too", VoiceBoundsTest::checkErrors);
        DUE.test("promise 40: what 0 .. 6", VoiceBoundsTest::count);
        DUE.test("promise 41: k 1 .. 6; another k is counted, too", VoiceBoundsTest::told);
        DUE.end();
    }

    private static void is(String call, long want, long got) {
        DUE.is(call, want, got);
    }

    /** k is 5, so that m 5 parts. */
    private static LetterWalls sixth(int kind, int m) {
        LetterWalls x = new LetterWalls();
        for (int i = 0; i < 5; i++) {
            x.wall(0, 1);
        }
        x.wall(10 * kind + m, 0);
        return x;
    }

    private static void voiceBeyond() {
        DUE.range("voice's wall", 0, 5, w -> sixth(0, 9).voice(w, 0, 7));
        DUE.range("voice's voice", 0, 3, v -> sixth(0, 9).voice(5, v, 7));
        is("voice ahead of PARTED", BEYOND, sixth(0, 5).voice(5, 4, 7));
        is("wall ahead of PARTED", BEYOND, sixth(0, 5).voice(6, 3, 7));
        is("no WALLS", BEYOND, new LetterWalls().voice(0, 0, 7));
    }

    private static void voiceIs(int due, int kind, int m, int voice, int x) {
        is("KIND " + kind + ", m " + m + ", voice " + voice + " of " + x, due, sixth(kind, m).voice(5, voice, x));
    }

    private static void voiceWraps() {
        voiceIs(MIN + 4, 0, 0, 0, MAX);
        voiceIs(MAX, 0, 0, 0, MAX - 5);
        voiceIs(MIN, 0, 0, 0, MAX - 4);
        voiceIs(8, 0, 0, 1, MAX);
        voiceIs(-2, 0, 0, 1, MAX - 5);
        voiceIs(MIN, 0, 0, 1, 1073741824 - 5);
        voiceIs(MAX, 0, 1, 2, 1073741824 - 5);
        voiceIs(MIN, 0, 4, 3, MIN);
        voiceIs(-MAX, 0, 6, 3, -MAX);
        voiceIs(MAX, 1, 0, 0, MIN);
        voiceIs(MIN, 2, 0, 1, 1073741824 - 5);
        voiceIs(-1, 4, 0, 0, 1431655766);
        voiceIs(MIN + 1, 4, 0, 0, 715827884);
        voiceIs(2 * (MIN + 5), 5, 0, 1, MAX);
        LetterWalls x = new LetterWalls();
        x.wall(11, 0);
        is("BACK, the least int and -10", MAX - 9, x.voice(0, 3, MIN));
    }

    private static void quotients() {
        voiceIs(3, 0, 3, 3, -7);
        voiceIs(-3, 0, 3, 3, 7);
        voiceIs(3, 0, 7, 3, 7);
        voiceIs(-3, 0, 7, 3, -7);
        voiceIs(0, 0, 9, 3, 3);
        voiceIs(0, 0, 9, 3, -3);
        voiceIs(1, 0, 9, 3, 4);
        voiceIs(2 * 2, 3, 0, 2, -7);
        voiceIs(2 * 8, 3, 0, 2, 7);
        voiceIs(2 * 5, 3, 0, 2, -1);
        voiceIs(2 * 5, 3, 0, 2, 1);
        voiceIs(2 * (MIN / 2 + 5), 3, 0, 2, MIN);
    }

    private static void parted() {
        for (int m = 0; m < 10; m++) {
            voiceIs(m == 5 ? PARTED : 60 / (m - 5), 0, m, 3, 60);
            voiceIs(m == 5 ? PARTED : 0, 0, m, 3, 0);
        }
        voiceIs(PARTED, 0, 5, 3, 0);
        LetterWalls x = new LetterWalls();
        x.wall(0, 0);
        is("m 0 of WALL 0", PARTED, x.voice(0, 3, 8));
        x.set(0, 1, 1);
        is("m 1 of WALL 0", 8, x.voice(0, 3, 8));
        voiceIs(-1000006, 0, 0, 0, -1000011);
        is("a number like PARTED is none", 0, sixth(0, 0).told(6));
    }

    private static void partedBelow() {
        for (int kind = 0; kind < 7; kind++) {
            voiceIs(PARTED, kind, 5, 3, 60);
            voiceIs(kind == 6 ? 8 : kind == 1 ? 59 : kind == 4 ? 177 : 65, kind, 5, 0, 60);
        }
        LetterWalls x = sixth(1, 5);
        x.voice(5, 3, 60);
        is("one ERROR", 1, x.told(6));
        is("no BODY behind it", NONE, x.body(2));
        is("the quotient began", 13, x.body(1));
    }

    private static void bodies() {
        String[][] due = {
            {"10", "11 10", "12 11 10", "13"},
            {"20 10", "11 20 10", "12 11 20 10", "21 13 11 20 10"},
            {"10", "30 11 10", "12 30 11 10", "13"},
            {"10", "11 10", "40 12 11 10", "13"},
            {"50 20 10", "11 50 20 10", "51 12 11 50 20 10", "21 13 11 50 20 10"},
            {"10", "60 11 10", "40 12 60 11 10", "13"},
            {"70", "71 11 70", "12 71 11 70", "13"},
        };
        for (int kind = 0; kind < 7; kind++) {
            for (int voice = 0; voice < 4; voice++) {
                LetterWalls x = sixth(kind, 9);
                x.voice(5, voice, 60);
                traceIs("KIND " + kind + ", voice " + voice, due[kind][voice], x);
            }
        }
    }

    private static void traceIs(String what, String due, LetterWalls x) {
        StringBuilder got = new StringBuilder();
        for (int i = 0; i < x.count(5); i++) {
            got.append(i == 0 ? "" : " ").append(x.body(i));
        }
        is(what + " (" + got + " for " + due + ")", 1, got.toString().equals(due) ? 1 : 0);
    }

    private static void numbers() {
        for (int k = 0; k < 6; k++) {
            for (int m = 0; m < 10; m++) {
                LetterWalls x = new LetterWalls();
                for (int i = 0; i < 6; i++) {
                    x.wall(m, 0);
                }
                is("reads", 100 + k, x.voice(k, 0, 100));
                is("falls", 200 + 2 * k - m, x.voice(k, 2, 100));
                x.set(k, 0, 4);
                is("TURNED falls", 3 * (94 + k) * 2 - m ^ k, x.voice(k, 2, 100));
                x.set(k, 0, 6);
                is("TOLD says", 16 + m, x.voice(k, 1, 100));
            }
        }
    }

    private static void trace() {
        LetterWalls x = sixth(1, 9);
        traceIs("none at first", "", x);
        x.voice(5, 2, 1);
        traceIs("falls", "12 11 20 10", x);
        x.voice(0, 0, 1);
        traceIs("shorter", "10", x);
        x.voice(6, 0, 1);
        x.voice(5, 4, 1);
        traceIs("BEYOND leaves it", "10", x);
        x.set(5, 1, 5);
        x.voice(5, 3, 1);
        traceIs("as they began, though it PARTED", "21 13", x);
        x.image();
        x.voice(0, 1, 1);
        x.restore();
        traceIs("an IMAGE leaves it", "11 10", x);
    }

    private static void bodyNone() {
        LetterWalls x = sixth(4, 9);
        for (int i : new int[] {MIN, -1, 0, MAX}) {
            is("none yet " + i, NONE, x.body(i));
        }
        x.voice(5, 2, 1);
        int[] due = {51, 12, 11, 50, 20, 10};
        for (int i = 0; i < 6; i++) {
            is("BODY " + i, due[i], x.body(i));
        }
        for (int i : new int[] {MIN, -1, 6, 30, MAX}) {
            is("none such " + i, NONE, x.body(i));
        }
        x.voice(0, 0, 1);
        is("one alone", NONE, x.body(1));
    }

    /** SHEETS 0 to 2 of 3 numbers by 8, 16, 32 bits, SHEET 3 missing; WALL 0 of 24 bricks. */
    private static LetterWalls sheets() {
        LetterWalls x = new LetterWalls();
        Due.sheet(x, 0, 8, 1, 2, 3);
        Due.sheet(x, 1, 16, 4, 5, 6);
        Due.sheet(x, 2, 32, 7, 8, 9);
        Due.wallOf(x, 0, 24, 26);
        return x;
    }

    /** The numbers of a SHEET as bricks of WALL 0, up to the first that is none. */
    private static void sheetIs(String what, String due, LetterWalls x, int sheet) {
        StringBuilder got = new StringBuilder();
        int came = x.bricks(sheet, 0);
        for (int i = 0; i < came; i++) {
            got.append(i == 0 ? "" : " ").append(x.brickOf(0, i));
        }
        is(what + " (" + got + " for " + due + ")", 1, got.toString().equals(due) ? 1 : 0);
    }

    private static void sheetNumbers() {
        DUE.range("sheet's sheet", 0, 3, s -> new LetterWalls().sheet(s, 8, 1));
        DUE.range("sheet's sheet, missing", 0, 3, s -> new LetterWalls().sheet(s, 0, 1));
        LetterWalls x = new LetterWalls();
        for (int s = 0; s < 4; s++) {
            is("missing at first", NONE, x.put(s, 0, 1));
            is("is there", 1, x.sheet(s, 8, 1));
            is("its number", 1, x.put(s, 0, 1));
        }
    }

    private static void sheetBits() {
        for (int bits = -1; bits <= 65; bits++) {
            LetterWalls x = new LetterWalls();
            boolean are = bits == 0 || bits == 8 || bits == 16 || bits == 32;
            is("bits " + bits, are ? 1 : BEYOND, x.sheet(0, bits, 1));
            is("there by " + bits, are && bits > 0 ? 1 : NONE, x.put(0, 0, 1));
        }
        is("bits ahead of STATE", BEYOND, new LetterWalls().sheet(0, 7, -1));
        is("bits below 0", BEYOND, new LetterWalls().sheet(0, MIN, 1));
        is("bits far above", BEYOND, new LetterWalls().sheet(0, MAX, 1));
    }

    private static void sheetSize() {
        for (int bits : new int[] {8, 16, 32}) {
            for (int n : new int[] {0, 1, 23, 24, 25, MAX}) {
                LetterWalls x = new LetterWalls();
                is(n + " of " + bits, n <= 24 ? 1 : BEYOND, x.sheet(0, bits, n));
                if (n <= 24) {
                    is("none behind", BEYOND, x.put(0, n, 1));
                    is("the last", n > 0 ? 1 : BEYOND, x.put(0, n - 1, 1));
                } else {
                    is("still missing", NONE, x.put(0, 0, 1));
                }
            }
        }
        LetterWalls x = sheets();
        is("anew", 1, x.sheet(0, 8, 3));
        sheetIs("all 0", "0 0 0", x, 0);
        is("longer", 1, x.sheet(0, 16, 5));
        sheetIs("all 0", "0 0 0 0 0", x, 0);
    }

    private static void sheetMissing() {
        for (int n : new int[] {MIN, -1, 0, 3, 24, 25, MAX}) {
            LetterWalls x = sheets();
            is("missing by " + n, 1, x.sheet(0, 0, n));
            is("it is missing", NONE, x.put(0, 0, 1));
            is("another isn't", 1, x.put(1, 0, 1));
            is("missing again", 1, x.sheet(0, 0, n));
        }
    }

    private static void sheetState() {
        for (int bits : new int[] {8, 16, 32}) {
            for (int n : new int[] {MIN, -25, -1}) {
                LetterWalls x = sheets();
                is("n " + n, STATE, x.sheet(0, bits, n));
                sheetIs("it stays", "1 2 3", x, 0);
                is("SHEET ahead of STATE", BEYOND, x.sheet(4, bits, n));
            }
        }
        is("n 0", 1, sheets().sheet(0, 8, 0));
    }

    private static void put() {
        DUE.range("put's sheet", 0, 2, s -> sheets().put(s == 3 ? 4 : s, 0, 1));
        DUE.range("put's i of 3", 0, 2, i -> sheets().put(2, i, 1));
        LetterWalls x = sheets();
        for (int i : new int[] {MIN, -1, 0, 3, MAX}) {
            is("missing, ahead of BEYOND of i", NONE, x.put(3, i, 1));
            is("SHEET ahead of missing", BEYOND, x.put(4, i, 1));
        }
        x.sheet(3, 8, 0);
        is("no numbers", BEYOND, x.put(3, 0, 1));
        x.sheet(3, 8, 24);
        is("the last of 24", 1, x.put(3, 23, 1));
        is("none behind", BEYOND, x.put(3, 24, 1));
    }

    private static void lowestBits() {
        int[] put = {0x05, 0x105, 0x10005, 0xFFFFFF05, 0x80000005, 0x0105};
        for (int v : put) {
            for (int bits : new int[] {8, 16, 32}) {
                LetterWalls x = sheets();
                Due.sheet(x, 3, bits, v);
                int left = bits == 32 ? v : v & (1 << bits) - 1;
                is(v + " by " + bits, left == 5 ? 1 : 0, x.bricks(3, 0));
            }
        }
        LetterWalls x = sheets();
        Due.sheet(x, 0, 8, 256, 26, 27);
        sheetIs("256 is 0 of 8 bits", "0 26", x, 0);
        Due.sheet(x, 1, 16, 65536, 65536 + 26, 256);
        sheetIs("65536 is 0 of 16 bits", "0 26", x, 1);
        Due.sheet(x, 2, 32, 26, 65536);
        sheetIs("65536 is none of 32 bits", "26", x, 2);
    }

    private static void moveSheets() {
        for (int no : new int[] {MIN, -1, 4, MAX}) {
            is("from " + no, BEYOND, sheets().move(no, 0, 0, 0, 1));
            is("to " + no, BEYOND, sheets().move(0, 0, no, 0, 1));
            is("from " + no + ", ahead of missing", BEYOND, sheets().move(no, 0, 3, 0, 1));
            is("to " + no + ", ahead of missing", BEYOND, sheets().move(3, 0, no, 0, 1));
        }
        for (int n : new int[] {-1, 0, 1, 25}) {
            is("from the missing one", NONE, sheets().move(3, 0, 0, 0, n));
            is("to the missing one", NONE, sheets().move(0, 0, 3, 0, n));
            is("both", NONE, sheets().move(3, 0, 3, 0, n));
            is("8 to 16 bits", KIND, sheets().move(0, 0, 1, 0, n));
            is("16 to 8 bits", KIND, sheets().move(1, 0, 0, 0, n));
            is("16 to 32 bits", KIND, sheets().move(1, 0, 2, 0, n));
        }
        for (int bits : new int[] {8, 16, 32}) {
            LetterWalls x = sheets();
            Due.sheet(x, 3, bits, 11, 12);
            is("like bits", 2, x.move(3, 0, bits / 16, 1, 2));
            sheetIs("came", new String[] {"1 11 12", "4 11 12", "7 11 12"}[bits / 16], x, bits / 16);
            sheetIs("and stay", "11 12", x, 3);
        }
    }

    private static void moveNumbers() {
        int[][] fine = {{0, 0, 3}, {0, 0, 0}, {3, 0, 0}, {0, 3, 0}, {3, 3, 0}, {2, 0, 1}, {0, 2, 1}, {1, 0, 2}, {0, 1, 2}};
        for (int[] one : fine) {
            is("from " + one[0] + " to " + one[1] + " by " + one[2], one[2], moved(one));
        }
        int[][] not = {{0, 0, -1}, {-1, 0, 1}, {0, -1, 1}, {-1, 0, 0}, {0, -1, 0}, {0, 0, 4}, {1, 0, 3}, {0, 1, 3},
            {3, 0, 1}, {0, 3, 1}, {4, 0, 0}, {0, 4, 0}, {MAX, 0, 1}, {0, MAX, 1}, {0, 0, MAX}, {MAX, 0, MAX},
            {1, 0, MAX}, {0, 1, MAX}, {MIN, 0, 1}, {0, MIN, 1}, {0, 0, MIN}, {MIN, MIN, MIN}, {3, 3, MIN}, {4, 4, -1}};
        for (int[] one : not) {
            is("from " + one[0] + " to " + one[1] + " by " + one[2], BEYOND, moved(one));
        }
        LetterWalls x = sheets();
        x.sheet(3, 8, 24);
        is("from 3 of 3 into 24", 3, x.move(0, 0, 3, 21, 3));
        is("over the end of 24", BEYOND, x.move(0, 0, 3, 22, 3));
        is("all 24", 24, x.move(3, 0, 3, 0, 24));
        sheetIs("the last", "0 0 0 0 0 0 0 0 0 0 0 0 0 0 0 0 0 0 0 0 0 1 2 3", x, 3);
    }

    private static int moved(int[] fromToBy) {
        LetterWalls x = sheets();
        Due.sheet(x, 3, 8, 11, 12, 13);
        return x.move(0, fromToBy[0], 3, fromToBy[1], fromToBy[2]);
    }

    private static void moveSame() {
        LetterWalls x = new LetterWalls();
        x.wall(0, 24);
        for (int bits : new int[] {8, 16, 32}) {
            Due.sheet(x, 0, bits, 1, 2, 3, 4, 5);
            is("onward", 4, x.move(0, 0, 0, 1, 4));
            sheetIs("onward", "1 1 2 3 4", x, 0);
            is("back", 4, x.move(0, 1, 0, 0, 4));
            sheetIs("back", "1 2 3 4 4", x, 0);
            is("onto itself", 5, x.move(0, 0, 0, 0, 5));
            sheetIs("onto itself", "1 2 3 4 4", x, 0);
        }
    }

    private static void bricksErrors() {
        DUE.range("bricks's sheet", 0, 2, s -> sheets().bricks(s == 3 ? 4 : s, 0));
        DUE.range("bricks's wall", 0, 0, w -> sheets().bricks(0, w));
        is("missing", NONE, sheets().bricks(3, 0));
        is("WALL ahead of missing", BEYOND, sheets().bricks(3, 1));
        is("no WALLS", BEYOND, new LetterWalls().bricks(0, 0));
    }

    private static void bricksNone() {
        for (int none : new int[] {MIN, -1, 27, MAX}) {
            LetterWalls x = sheets();
            Due.sheet(x, 2, 32, 1, 0, none, 4);
            is("up to " + none, 2, x.bricks(2, 0));
            int[] due = {1, 0, 26, 26};
            for (int i = 0; i < 4; i++) {
                is("brick " + i, due[i], x.brickOf(0, i));
            }
            Due.sheet(x, 2, 32, none, 4);
            is("at once " + none, 0, x.bricks(2, 0));
            is("nothing came", 1, x.brickOf(0, 0));
        }
        LetterWalls x = sheets();
        Due.sheet(x, 2, 32, 26, 1, 0, 27);
        sheetIs("26, 1 and 0 are bricks", "26 1 0", x, 2);
    }

    private static void bricksEnd() {
        LetterWalls x = sheets();
        x.wall(0, 2);
        x.wall(0, 3);
        x.wall(0, 0);
        is("the WALL's end", 2, x.bricks(0, 1));
        is("the end of both", 3, x.bricks(0, 2));
        is("no bricks", 0, x.bricks(0, 3));
        is("the SHEET's end", 3, x.bricks(0, 0));
        is("the last that came", 3, x.brickOf(0, 2));
        is("the next one stays", 26, x.brickOf(0, 3));
        x.sheet(3, 8, 0);
        is("no numbers", 0, x.bricks(3, 0));
        x.sheet(3, 8, 24);
        is("24 and 24", 24, x.bricks(3, 0));
        is("all OPEN", 0, x.wallIs(0, 3));
        Due.sheet(x, 0, 32, 5, 6, 99);
        is("the WALL's end ahead of one that is none", 2, x.bricks(0, 1));
    }

    private static void image() {
        LetterWalls x = new LetterWalls();
        x.wall(0, 1);
        for (int i = 1; i <= 5; i++) {
            is("image", i, x.image());
            x.restore();
        }
        x.seed(5);
        is("the sixth", 6, x.image());
        x.seed(7);
        x.restore();
        is("in place of the one ahead", 5, x.count(6));
    }

    private static void restoreNone() {
        LetterWalls x = new LetterWalls();
        x.wall(0, 1);
        is("none", NONE, x.restore());
        is("none again", NONE, x.restore());
        is("nothing is changed", 1, x.count(0));
        is("the first", 1, x.image());
        is("there is one", 1, x.restore());
    }

    private static void imageStays() {
        LetterWalls x = Due.plain();
        Due.wall(x, 0, 1, 2, 4);
        Due.feed(x, "9");
        x.tell(0);
        x.image();
        for (int i = 0; i < 3; i++) {
            is("purse", 100, x.have(1, i));
            is("heap", 0, x.heap(1, 9));
            is("season", 0, x.have(0, 1));
            is("z", 1, x.seed(9));
            is("bytes", 1, x.count(3));
            is("price", 1, x.price(1));
            is("text", 1, x.text(1));
            is("told price", 9, x.price(1));
            is("waits", 1, x.count(4));
            is("check", 2, x.check(0));
            is("brick", 4, x.brick(0, 2, 9));
            is("kind", 0, x.set(0, 0, 1));
            is("m", 0, x.set(0, 1, 8));
            is("word", 5, x.word(4, 4));
            is("letter", 2, x.letter(0, 9));
            is("wall", 1, x.wall(0, 2));
            is("restore", 1, x.restore());
        }
    }

    /** Changes all that an IMAGE keeps. */
    private static LetterWalls changed(LetterWalls x) {
        x.wall(33, 7);
        x.brick(0, 1, 0);
        x.brick(1, 0, 26);
        x.set(0, 0, 4);
        x.set(1, 1, 9);
        x.word(0, 9);
        x.letter(0, 9);
        x.feed(49, 2);
        Due.text(x, 0, "5");
        Due.text(x, 0, "i*1+m");
        x.untell(1);
        Due.feed(x, "77");
        x.heap(1, 5);
        x.heap(3, 0);
        x.heap(26, 9);
        x.have(0, 0);
        x.have(1, 6);
        x.seed(-3);
        x.tell(8);
        x.check(0);
        for (int i = 0; i < 4; i++) {
            x.tell(7 - i);
        }
        x.falls(2);
        return x;
    }

    private static LetterWalls imaged(LetterWalls x) {
        x.image();
        return x;
    }

    private static LetterWalls restored(LetterWalls x) {
        x.restore();
        return x;
    }

    private static void allRestored() {
        Views.alike(DUE, () -> imaged(Worlds.villageWithTape()),
            () -> restored(changed(imaged(Worlds.villageWithTape()))));
        Views.alike(DUE, () -> imaged(Worlds.fullTown()), () -> restored(changed(imaged(Worlds.fullTown()))));
        Views.alike(DUE, () -> imaged(new LetterWalls()), () -> restored(changed(imaged(new LetterWalls()))));
    }

    private static void notInImage() {
        LetterWalls x = sheets();
        x.voice(0, 0, 1);
        x.wall(0, 9);
        x.image();
        x.sheet(0, 16, 1);
        x.put(1, 0, 11);
        x.sheet(2, 0, 0);
        x.sheet(3, 8, 24);
        x.voice(0, 2, 1);
        int told = x.told(1);
        x.told(9);
        is("restore", 2, x.restore());
        is("told() tells", told + 1, x.told(1));
        traceIs("THE TRACE", "12 11 10", x);
        is("SHEET 0 is another", KIND, x.move(0, 0, 3, 0, 0));
        is("SHEET 0 is shorter", BEYOND, x.put(0, 1, 1));
        sheetIs("SHEET 1", "11 5 6", x, 1);
        is("SHEET 2 is missing", NONE, x.put(2, 0, 1));
        is("SHEET 3 is there", 1, x.put(3, 23, 1));
        is("the second IMAGE", 2, x.image());
    }

    private static void restoreWalls() {
        for (int walls = 0; walls <= 6; walls++) {
            LetterWalls x = new LetterWalls();
            for (int i = 0; i < walls; i++) {
                x.wall(0, 24);
            }
            x.image();
            x.wall(0, 3);
            is("of " + walls, walls, x.restore());
            is("WALLS", walls, x.count(0));
            is("no other", BEYOND, x.wallIs(walls, 2));
            is("the next one", walls < 6 ? walls : FULL, x.wall(0, 4));
        }
    }

    private static void tell() {
        LetterWalls x = new LetterWalls();
        int[] any = {MIN, -1, 0, MAX};
        for (int i = 1; i <= 24; i++) {
            is("waits", i, x.tell(any[i % 4]));
        }
        is("the 25th", FULL, x.tell(0));
        is("24 wait", 24, x.count(4));
        x.check(0);
        is("room again", 1, x.tell(0));
    }

    /** What check() answers of the LAW 1 2 3 4 when some numbers wait. */
    private static int checked(int... numbers) {
        LetterWalls x = Due.plain();
        Due.wall(x, 0, 1, 2, 3, 4);
        for (int number : numbers) {
            x.tell(number);
        }
        int answer = x.check(0);
        is("none wait", 0, x.count(4));
        return answer;
    }

    private static void check() {
        is("all", 0, checked(0, 1, 2, 3));
        is("not the first", 1, checked(1, 1, 2, 3));
        is("not the second", 2, checked(0, 0, 2, 3));
        is("not the last", 4, checked(0, 1, 2, 2));
        is("the first of two", 2, checked(0, 9, 9, 3));
        is("no WORD at all", 1, checked(MIN, 1, 2, 3));
    }

    private static void checkLength() {
        is("none", 1, checked());
        is("one of four", 2, checked(0));
        is("three of four", 4, checked(0, 1, 2));
        is("five for four", 5, checked(0, 1, 2, 3, 0));
        is("another, ahead of too many", 3, checked(0, 1, 9, 3, 0));
        is("another, ahead of one that lacks", 1, checked(9));
        LetterWalls x = Due.plain();
        int[] law = {1, 2, 4, 5, 1, 2, 4, 5, 1, 2, 4, 5, 1, 2, 4, 5, 1, 2, 4, 5, 1, 2, 3, 4};
        Due.wall(x, 0, law);
        for (int letter : law) {
            x.tell(letter - 1);
        }
        is("all 24", 0, x.check(0));
        for (int i = 0; i < 23; i++) {
            x.tell(law[i] - 1);
        }
        is("23 of 24", 24, x.check(0));
        for (int i = 0; i < 24; i++) {
            x.tell(law[i] - 1);
        }
        x.brick(0, 22, 0);
        is("not the 23rd of 23", 23, x.check(0));
    }

    private static void checkErrors() {
        for (int wall : new int[] {MIN, -1, 1, MAX}) {
            LetterWalls x = Due.plain();
            Due.wall(x, 0, 1, 2, 4);
            x.tell(0);
            x.tell(1);
            is("no WALL " + wall, BEYOND, x.check(wall));
            is("none wait then, too", 0, x.count(4));
            is("the first lacks", 1, x.check(0));
            x.tell(0);
            x.brick(0, 0, 9);
            is("it doesn't READ", NONE, x.check(0));
            is("none wait then, too", 0, x.count(4));
            is("nor with none", NONE, x.check(0));
            is("told BEYOND", 1, x.told(1));
            is("told NONE", 2, x.told(2));
        }
    }

    private static void count() {
        DUE.range("count's what", 0, 6, what -> new LetterWalls().count(what));
        LetterWalls x = new LetterWalls();
        int[] first = {0, 0, 0, 0, 0, 0, 1};
        int[] then = {6, 12, 2574, 60, 24, 6, -77};
        for (int what = 0; what < 7; what++) {
            is("at first " + what, first[what], x.count(what));
        }
        for (int i = 0; i < 60; i++) {
            x.wall(40, 0);
            x.word(0, 1);
            x.heap(1 + i % 26, 99);
            x.feed(49, 1);
            x.tell(i);
        }
        x.voice(0, 2, 1);
        x.seed(-77);
        for (int what = 0; what < 7; what++) {
            is("then " + what, then[what], x.count(what));
        }
    }

    private static void told() {
        DUE.range("told's k", 1, 6, k -> new LetterWalls().told(k));
        LetterWalls x = new LetterWalls();
        for (int k = 1; k <= 6; k++) {
            is("none of " + k, 0, x.told(k));
        }
        int[] others = {MIN, -1, 0, 7, MAX};
        for (int i = 0; i < others.length; i++) {
            is("another k", BEYOND, x.told(others[i]));
            is("counted, too", i + 1, x.told(1));
        }
        for (int k = 2; k <= 6; k++) {
            is("still none of " + k, 0, x.told(k));
        }
    }
}
