/** Counts and prints the answers that are not as due. */
final class Due {
    static final int BEYOND = -1000001;
    static final int NONE = -1000002;
    static final int STATE = -1000003;
    static final int FULL = -1000004;
    static final int KIND = -1000005;
    static final int PARTED = -1000006;

    private int asked;
    private int wrong;

    void is(String call, long want, long got) {
        asked++;
        if (got != want) {
            wrong++;
            System.out.println(call + " answered " + got + ", due is " + want);
        }
    }

    void end() {
        System.out.println(asked + " answers, " + wrong + " not as due");
        if (wrong != 0 || asked == 0) {
            System.exit(1);
        }
    }

    static void feed(LetterWalls x, String bytes) {
        for (int i = 0; i < bytes.length(); i++) {
            x.feed(bytes.charAt(i), 1);
        }
    }

    static int text(LetterWalls x, int use, String bytes) {
        feed(x, bytes);
        return x.text(use);
    }

    static int wall(LetterWalls x, int km, int... bricks) {
        int wall = x.wall(km, bricks.length);
        for (int i = 0; i < bricks.length; i++) {
            x.brick(wall, i, bricks[i]);
        }
        return wall;
    }

    static int word(LetterWalls x, int sort, int... letters) {
        int word = x.word(sort, letters[0]);
        for (int i = 1; i < letters.length; i++) {
            x.letter(word, letters[i]);
        }
        return word;
    }

    static void sheet(LetterWalls x, int sheet, int bits, int... numbers) {
        x.sheet(sheet, bits, numbers.length);
        for (int i = 0; i < numbers.length; i++) {
            x.put(sheet, i, numbers[i]);
        }
    }
}
