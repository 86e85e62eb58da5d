import java.util.ArrayList;
import java.util.List;
import java.util.Random;

/** Runs of 512 calls, told by a seed, that LetterWalls and Model must answer alike. */
final class RandomRunsTest {
    private static final int RUNS = 1500;
    private static final int CALLS = 512;
    private static final String[] OFTEN = {
        "wall", "wallIs", "wallIs", "wallIs", "as", "set", "set", "brick", "brick", "brick", "brick", "brickOf",
        "readAs", "readAs", "word", "letter", "wordIs", "text", "text", "untell", "says", "says",
        "doors", "spare", "others", "steps", "mends", "wish", "heap", "heap", "price", "have", "lay", "lay",
        "falls", "builds", "years", "seed", "voice", "voice", "body", "sheet", "put", "put", "move", "bricks",
        "image", "restore", "tell", "check", "count", "told", "law", "law", "sayBack", "wishLaw", "feed",
    };

    private final Random random;
    private final LetterWalls x = new LetterWalls();
    private final Model model = new Model();
    private final List<String> log = new ArrayList<>();
    private final int letters;
    private final int longest;
    private int calls;
    private boolean unlike;

    private RandomRunsTest(long seed) {
        random = new Random(seed);
        letters = new int[] {1, 2, 3, 5, 8}[random.nextInt(5)];
        longest = 1 + random.nextInt(3);
    }

    public static void main(String[] args) {
        int runs = args.length > 0 ? Integer.parseInt(args[0]) : RUNS;
        int from = args.length > 1 ? Integer.parseInt(args[1]) : 0;
        int wrong = 0;
        int read = 0;
        for (int run = from; run < from + runs && wrong < 3; run++) {
            RandomRunsTest one = new RandomRunsTest(run);
            one.play();
            wrong += one.unlike ? 1 : 0;
            for (int w = 0; w < 6; w++) {
                read += one.x.wallIs(w, 4) == 1 ? 1 : 0;
            }
        }
        System.out.println(runs + " runs, " + wrong + " unlike, " + read + " walls read at the end");
        if (wrong != 0 || read < runs / 10) {
            System.exit(1);
        }
    }

    private void play() {
        words();
        while (calls < CALLS && !unlike) {
            step(OFTEN[random.nextInt(OFTEN.length)]);
        }
    }

    private int call(String name, long... a) {
        if (calls >= CALLS || unlike) {
            return 0;
        }
        calls++;
        int due = model.run(name, a);
        int got = Calls.answer(x, name, a);
        log.add(Calls.shown(name, a) + " -> " + got);
        if (due != got) {
            unlike = true;
            for (String line : log) {
                System.out.println(line);
            }
            System.out.println("   the model answers " + due);
        }
        return due;
    }

    private int below(int n) {
        return random.nextInt(n);
    }

    /** Mostly 0 .. n - 1, at times a little or far beyond. */
    private int near(int n) {
        int dice = below(30);
        if (dice == 0) {
            return n;
        }
        if (dice == 1) {
            return -1;
        }
        if (dice == 2 && below(4) == 0) {
            return random.nextInt();
        }
        return n > 0 ? below(n) : 0;
    }

    private int one(int... values) {
        return values[below(values.length)];
    }

    private int letter() {
        return below(40) == 0 ? near(28) : below(12) == 0 ? 5 : 1 + below(letters);
    }

    private int walls() {
        return Math.max(1, model.peek("count", 0));
    }

    private int wallNumber() {
        return near(walls());
    }

    private int place(int wall) {
        return near(Math.max(0, model.peek("wallIs", wall, 2)));
    }

    private void words() {
        int n = 4 + below(9);
        for (int i = 0; i < n; i++) {
            int sort = i < 5 ? one(0, 1, 2, 3, 3, 4, 0, 1) : below(5);
            int word = call("word", i < 4 ? one(i, new int[] {0, 1, 3, 4}[i]) : sort, letter());
            int more = below(longest);
            for (int j = 0; j < more; j++) {
                call("letter", word, letter());
            }
        }
    }

    private void step(String name) {
        int w = wallNumber();
        switch (name) {
            case "wall": call(name, one(near(70), 10 * below(7) + below(3)), one(near(25), 3 + below(10))); break;
            case "wallIs": call(name, w, near(8)); break;
            case "as": call(name, w, near(7)); break;
            case "set": if (below(2) == 0) { call(name, w, 0, near(7)); } else { call(name, w, near(2), near(7)); } break;
            case "brick": call(name, w, place(w), one(0, letter(), letter())); break;
            case "brickOf": call(name, w, place(w)); break;
            case "readAs": call(name, w, near(20)); break;
            case "word": if (below(6) == 0) { call(name, near(5), letter()); } break;
            case "letter": if (below(8) == 0) { call(name, near(12), letter()); } break;
            case "wordIs": call(name, near(12), near(5) - 2); break;
            case "feed": if (below(5) == 0) { call(name, random.nextLong(), near(9)); } break;
            case "text": text(); break;
            case "untell": call(name, near(2)); break;
            case "says": call(name, w, near(6) - 1); break;
            case "doors": call(name, w, near(6) + 1); break;
            case "others": call(name, w, place(w)); break;
            case "wish": call(name, w, near(4)); break;
            case "heap": call(name, letter(), one(near(101) - 1, 0, 1, 2, 9, 98)); break;
            case "price": call(name, letter()); break;
            case "have": call(name, near(2), one(near(4), near(100000), below(200))); break;
            case "lay": call(name, w, place(w), letter(), near(2)); break;
            case "builds": call(name, near(7) + 1, near(2)); break;
            case "years": call(name, near(20) + 1); break;
            case "seed": call(name, random.nextInt()); break;
            case "voice": call(name, w, near(4), one(random.nextInt(), below(50) - 25, Integer.MIN_VALUE)); break;
            case "sheet": call(name, near(4), one(0, 8, 16, 32, 8, 32, 7), one(near(25), below(10))); break;
            case "put": call(name, near(4), near(10), one(letter(), letter(), 0, near(12), 256 + below(9), 65536 * below(9))); break;
            case "move": call(name, near(4), near(6), near(4), near(6), near(5)); break;
            case "bricks": call(name, near(4), w); break;
            case "image": case "restore": if (below(3) == 0) { call(name); } break;
            case "tell": call(name, near(12)); break;
            case "count": case "told": case "body": call(name, near(8)); break;
            case "law": law(w); break;
            case "sayBack": sayBack(w); break;
            case "wishLaw": wishLaw(w); break;
            case "falls": if (below(3) == 0) { call(name, w); } break;
            default: call(name, w); break;
        }
    }

    private void text() {
        int left = 60 - model.peek("count", 3);
        String names = one(0, 1) == 0 ? "linm" : "lsh";
        String t = below(4) == 0 ? anyText(names) : goodText(names, 2 + below(3), 5);
        if (t.length() > left) {
            t = t.substring(0, left);
        }
        for (int i = 0; i < t.length(); i += 8) {
            long word = 0;
            int n = Math.min(8, t.length() - i);
            for (int j = n - 1; j >= 0; j--) {
                word = word << 8 | t.charAt(i + j);
            }
            call("feed", word, n);
        }
        call("text", below(20) == 0 ? near(2) : names.length() == 4 ? 0 : 1);
    }

    private String anyText(String names) {
        String signs = names + "0123()!+-*/%<=>&|x";
        StringBuilder out = new StringBuilder();
        int n = below(14);
        for (int i = 0; i < n; i++) {
            out.append(i % 2 == 0 && below(3) > 0 ? names.charAt(below(names.length()))
                : signs.charAt(below(signs.length())));
        }
        return out.toString();
    }

    private String goodText(String names, int depth, int open) {
        int dice = below(10);
        if (depth == 0 || dice < 2) {
            return below(3) == 0 ? "" + below(below(4) == 0 ? 10000 : 30) : "" + names.charAt(below(names.length()));
        }
        if (dice == 2 && open > 0) {
            return "!" + goodText(names, 0, open - 1);
        }
        if (dice < 5 && open > 0) {
            return "(" + goodText(names, depth - 1, open - 1) + ")";
        }
        char operator = "++--**/%%<=>&|".charAt(below(14));
        return goodText(names, depth - 1, open) + operator + goodText(names, depth - 1, open);
    }

    private List<Integer> lawOfWords() {
        int n = model.peek("count", 1);
        List<Integer> law = new ArrayList<>();
        int due = 1;
        for (int i = 0; i < 60 && law.size() < 20; i++) {
            int w = n > 0 ? below(n) : 0;
            int sort = model.peek("wordIs", w, -1);
            if (sort >= 0 && (due >> sort & 1) == 1) {
                law.add(w);
                due = new int[] {2, 12, 8, 16, 1}[sort];
                if (due == 16 && below(2) == 0) {
                    return law;
                }
            }
        }
        return law;
    }

    /** Puts the LETTERS of a LAW into a WALL as its KIND reads them, at times with one fault. */
    private void law(int w) {
        int n = model.peek("wallIs", w, 2);
        int kind = model.peek("wallIs", w, 0);
        List<Integer> all = new ArrayList<>();
        for (int word : lawOfWords()) {
            int size = model.peek("wordIs", word, -2);
            for (int i = 0; i < size; i++) {
                all.add(model.peek("wordIs", word, i));
            }
        }
        int gaps = below(3);
        for (int i = 0; i < all.size() && i < n; i++) {
            int l = all.get(i);
            int place = kind == 1 || kind == 4 ? n - 1 - i : kind == 2 ? 2 * i : i;
            call("brick", w, place + (gaps == 0 && i > 2 && kind == 0 ? 1 : 0), kind == 4 ? 27 - l : l);
        }
        for (int i = all.size(); i < n && kind != 2; i++) {
            if (below(3) > 0) {
                call("brick", w, kind == 1 || kind == 4 ? n - 1 - i : i, 0);
            }
        }
    }

    private void sayBack(int w) {
        int n = model.peek("says", w, -1);
        for (int i = 0; i < n; i++) {
            call("tell", below(12) == 0 ? near(12) : model.peek("says", w, i));
        }
        if (n > 0 || below(3) == 0) {
            call("check", w);
        }
    }

    private void wishLaw(int w) {
        int n = model.peek("says", w, -1);
        if (n > 0 && n <= 24) {
            int sheet = below(4);
            call("sheet", sheet, one(8, 16, 32), n);
            for (int i = 0; i < n; i++) {
                call("put", sheet, i, below(6) == 0 ? near(12) : model.peek("says", w, i));
            }
            call("brick", w, place(w), letter());
            call("wish", w, sheet);
        }
    }
}
