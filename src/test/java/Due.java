import java.util.function.IntUnaryOperator;

/** Counts and prints the answers that are not as due. */
final class Due {
    static final int LOW = -1000000;
    static final int BEYOND = -1000001;
    static final int NONE = -1000002;
    static final int STATE = -1000003;
    static final int FULL = -1000004;
    static final int KIND = -1000005;
    static final int PARTED = -1000006;

    private int asked;
    private int wrong;
    private int tests;
    private int broken;
    private String sentence = "";

    void is(String call, long want, long got) {
        asked++;
        if (got != want) {
            wrong++;
            System.out.println(sentence + call + " answered " + got + ", due is " + want);
        }
    }

    /** A test of its own for a sentence of the document: the sentence stands before what is wrong in it. */
    void test(String ofTheDocument, Runnable calls) {
        int wrongBefore = wrong;
        sentence = ofTheDocument + ": ";
        calls.run();
        sentence = "";
        tests++;
        broken += wrong > wrongBefore ? 1 : 0;
    }

    /** From least to most it answers; what lies outside, on either side, is BEYOND. */
    void range(String call, int least, int most, IntUnaryOperator answer) {
        for (int v : new int[] {Integer.MIN_VALUE, least - 1, most + 1, Integer.MAX_VALUE}) {
            is(call + " by " + v, BEYOND, answer.applyAsInt(v));
        }
        for (int v : new int[] {least, most}) {
            is(call + " by " + v + " is no ERROR", 0, answer.applyAsInt(v) < LOW ? 1 : 0);
        }
    }

    void end() {
        String inTests = tests == 0 ? "" : " in " + tests + " tests, " + broken + " of them broken";
        System.out.println(asked + " answers, " + wrong + " not as due" + inTests);
        if (wrong != 0 || asked == 0) {
            System.exit(1);
        }
    }

    static void feed(LetterWalls x, String bytes) {
        for (int i = 0; i < bytes.length(); i++) {
            x.feed(bytes.charAt(i), 1);
        }
    }

    static int text(LetterWalls x, int use, String bytes) {
        feed(x, bytes);
        return x.text(use);
    }

    static int wall(LetterWalls x, int km, int... bricks) {
        int wall = x.wall(km, bricks.length);
        for (int i = 0; i < bricks.length; i++) {
            x.brick(wall, i, bricks[i]);
        }
        return wall;
    }

    /** A WALL of so many bricks, all of one LETTER. */
    static int wallOf(LetterWalls x, int km, int bricks, int letter) {
        int[] all = new int[bricks];
        java.util.Arrays.fill(all, letter);
        return wall(x, km, all);
    }

    static int word(LetterWalls x, int sort, int... letters) {
        int word = x.word(sort, letters[0]);
        for (int i = 1; i < letters.length; i++) {
            x.letter(word, letters[i]);
        }
        return word;
    }

    /** WHO 1, MAY 2, NOT 3, DOES 4, AND 5: each WORD one LETTER, the WORD's number less one. */
    static LetterWalls plain() {
        LetterWalls x = new LetterWalls();
        for (int sort = 0; sort < 5; sort++) {
            x.word(sort, sort + 1);
        }
        return x;
    }

    /** What a WALL IS READ AS, each LETTER with a blank behind it. */
    static String row(LetterWalls x, int wall) {
        StringBuilder out = new StringBuilder();
        for (int i = 0; i < x.wallIs(wall, 3); i++) {
            out.append(x.readAs(wall, i)).append(' ');
        }
        return out.toString();
    }

    void rowIs(String what, String want, LetterWalls x, int wall) {
        String got = row(x, wall);
        is(what + " (" + got + "for " + want + ")", 1, got.equals(want) ? 1 : 0);
    }

    static void sheet(LetterWalls x, int sheet, int bits, int... numbers) {
        x.sheet(sheet, bits, numbers.length);
        for (int i = 0; i < numbers.length; i++) {
            x.put(sheet, i, numbers[i]);
        }
    }
}
