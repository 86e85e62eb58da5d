import java.util.Random;

/** Any arguments in any state: no call throws, and the same calls give the same answers. */
final class NeverThrowsTest {
    private static final long[] EDGES = {
        Integer.MIN_VALUE, Integer.MIN_VALUE + 1, -1000000, -2, -1, 0, 1, 2, 3, 5, 6, 7, 8, 12, 16, 24, 26, 27, 32,
        48, 60, 69, 99, 255, 65535, Integer.MAX_VALUE - 1, Integer.MAX_VALUE, Long.MIN_VALUE, Long.MAX_VALUE,
    };

    public static void main(String[] args) {
        Due due = new Due();
        for (int run = 0; run < 400; run++) {
            due.is("run " + run + " again", play(run), play(run));
        }
        due.end();
    }

    private static long play(long seed) {
        Random random = new Random(seed);
        LetterWalls x = new LetterWalls();
        long sum = 0;
        for (int i = 0; i < 512; i++) {
            boolean fillsUp = random.nextInt(4) == 0;
            String name = fillsUp ? new String[] {"wall", "word", "letter", "feed", "bricks"}[random.nextInt(5)]
                : Calls.NAMES[random.nextInt(Calls.NAMES.length)];
            long[] a = new long[5];
            for (int j = 0; j < a.length; j++) {
                a[j] = random.nextInt(3) == 0 ? EDGES[random.nextInt(EDGES.length)]
                    : random.nextInt(fillsUp ? 5 : 12);
            }
            sum = sum * 31 + Calls.answer(x, name, a);
        }
        return sum;
    }
}
