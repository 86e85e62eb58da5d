import java.util.ArrayList;
import java.util.Arrays;
import java.util.Collections;
import java.util.HashMap;
import java.util.List;
import java.util.Map;
import java.util.TreeSet;

/**
 * The document a second time, by other means and with the whole library, to hold LetterWalls
 * against: rows are lists, LAWS are walked from the front with a memory, TEXTS are checked by an
 * automaton and worked out by two stacks, BUILDS by patterns of SORTS.
 */
final class Model {
    private static final int[] UP = {-1, 0, 0, 0, 1, 3, 0};
    private static final String[] NAMES = {"linm", "lsh"};

    private static final class State {
        final List<int[]> walls = new ArrayList<>();
        final List<Integer> kinds = new ArrayList<>();
        final List<Integer> ms = new ArrayList<>();
        final List<Integer> sorts = new ArrayList<>();
        final List<List<Integer>> words = new ArrayList<>();
        final String[] texts = new String[2];
        String tape = "";
        int[] heap = new int[27];
        int season;
        int purse = 100;
        int z = 1;
        List<Integer> waiting = new ArrayList<>();

        State copy() {
            State c = new State();
            for (int[] wall : walls) {
                c.walls.add(wall.clone());
            }
            c.kinds.addAll(kinds);
            c.ms.addAll(ms);
            c.sorts.addAll(sorts);
            for (List<Integer> word : words) {
                c.words.add(new ArrayList<>(word));
            }
            c.texts[0] = texts[0];
            c.texts[1] = texts[1];
            c.tape = tape;
            c.heap = heap.clone();
            c.season = season;
            c.purse = purse;
            c.z = z;
            c.waiting = new ArrayList<>(waiting);
            return c;
        }
    }

    /** Thrown by err() up to run(). */
    private static final class Error extends RuntimeException {
        private static final long serialVersionUID = 1L;
        final int k;

        Error(int k) {
            super(null, null, false, false);
            this.k = k;
        }
    }

    private State s = new State();
    private State image;
    private int images;
    private final int[][] sheets = new int[4][];
    private final int[] sheetBits = new int[4];
    private final List<Integer> trace = new ArrayList<>();
    private final int[] told = new int[7];

    int run(String call, long[] a) {
        try {
            return act(call, a);
        } catch (Error e) {
            told[e.k]++;
            return -1000000 - e.k;
        }
    }

    /** As run(), for calls that change nothing; told() isn't told of it. */
    int peek(String call, long... a) {
        try {
            return act(call, a);
        } catch (Error e) {
            return -1000000 - e.k;
        }
    }

    private static void err(boolean when, int k) {
        if (when) {
            throw new Error(k);
        }
    }

    private static void within(long v, long low, long high) {
        err(v < low || v > high, 1);
    }

    private void isWall(long w) {
        within(w, 0, s.walls.size() - 1);
    }

    private int act(String call, long[] a) {
        int p = a.length > 0 ? (int) a[0] : 0;
        int q = a.length > 1 ? (int) a[1] : 0;
        int r = a.length > 2 ? (int) a[2] : 0;
        switch (call) {
            case "wall": {
                within(p, 0, 69);
                within(q, 0, 24);
                err(s.walls.size() == 6, 4);
                s.walls.add(new int[q]);
                s.kinds.add(p / 10);
                s.ms.add(p % 10);
                return s.walls.size() - 1;
            }
            case "wallIs": {
                isWall(p);
                within(q, 0, 7);
                List<Integer> row = row(p, s.walls.get(p));
                return new int[] {s.kinds.get(p), s.ms.get(p), s.walls.get(p).length, row.size(),
                    ways(row) > 0 ? 1 : 0, (int) Math.min(999999, ways(row)), stuck(row), cost(p)}[q];
            }
            case "as": {
                isWall(p);
                within(q, 0, 6);
                int k = s.kinds.get(p);
                while (k >= 0 && k != q) {
                    k = UP[k];
                }
                err(k < 0, 5);
                return s.walls.get(p).length;
            }
            case "set": {
                isWall(p);
                within(q, 0, 1);
                within(r, 0, q == 0 ? 6 : 9);
                return (q == 0 ? s.kinds : s.ms).set(p, r);
            }
            case "brick": {
                isWall(p);
                within(q, 0, s.walls.get(p).length - 1);
                within(r, 0, 26);
                int was = s.walls.get(p)[q];
                s.walls.get(p)[q] = r;
                return was;
            }
            case "brickOf": {
                isWall(p);
                within(q, 0, s.walls.get(p).length - 1);
                return s.walls.get(p)[q];
            }
            case "readAs": {
                isWall(p);
                List<Integer> row = row(p, s.walls.get(p));
                within(q, 0, row.size() - 1);
                return row.get(q);
            }
            case "word": {
                within(p, 0, 4);
                within(q, 1, 26);
                err(s.words.size() == 12, 4);
                s.sorts.add(p);
                s.words.add(new ArrayList<>(List.of(q)));
                return s.words.size() - 1;
            }
            case "letter": {
                within(p, 0, s.words.size() - 1);
                within(q, 1, 26);
                err(s.words.get(p).size() == 6, 4);
                s.words.get(p).add(q);
                return s.words.get(p).size();
            }
            case "wordIs": {
                within(p, 0, s.words.size() - 1);
                within(q, -2, s.words.get(p).size() - 1);
                return q == -1 ? s.sorts.get(p) : q == -2 ? s.words.get(p).size() : s.words.get(p).get(q);
            }
            case "feed": {
                within(q, 1, 8);
                err(s.tape.length() + q > 60, 4);
                long left = a[0];
                for (int i = 0; i < q; i++) {
                    s.tape += (char) (left & 0xff);
                    left >>= 8;
                }
                return s.tape.length();
            }
            case "text": {
                within(p, 0, 1);
                String t = s.tape;
                s.tape = "";
                int fault = fault(t, NAMES[p]);
                if (fault >= 0) {
                    return -10 - fault;
                }
                s.texts[p] = t;
                return 1;
            }
            case "untell": {
                within(p, 0, 1);
                int was = s.texts[p] == null ? 0 : 1;
                s.texts[p] = null;
                return was;
            }
            default:
                return act2(call, p, q, r, a);
        }
    }

    private int act2(String call, int p, int q, int r, long[] a) {
        switch (call) {
            case "says": {
                isWall(p);
                within(q, -1, Integer.MAX_VALUE);
                List<Integer> said = says(row(p, s.walls.get(p)));
                err(said == null, 2);
                within(q, -1, said.size() - 1);
                return q == -1 ? said.size() : said.get(q);
            }
            case "doors": {
                isWall(p);
                within(q, 1, 12);
                int bits = 0;
                int n = s.walls.get(p).length;
                for (int i = 0; i < n; i++) {
                    if (i + q - 1 < n) {
                        int[] c = s.walls.get(p).clone();
                        Arrays.fill(c, i, i + q, 0);
                        bits += ways(row(p, c)) > 0 ? 1 << i : 0;
                    }
                }
                return bits;
            }
            case "spare": {
                isWall(p);
                int bits = 0;
                for (int i = 0; i < s.walls.get(p).length; i++) {
                    bits += s.walls.get(p)[i] > 0 && with(p, i, 0) ? 1 << i : 0;
                }
                return bits;
            }
            case "others": {
                isWall(p);
                within(q, 0, s.walls.get(p).length - 1);
                return others(p, q);
            }
            case "steps": {
                isWall(p);
                int n = 0;
                for (int i = 0; i < s.walls.get(p).length; i++) {
                    n += s.walls.get(p)[i] > 0 ? Integer.bitCount(others(p, i)) : 0;
                }
                return n;
            }
            case "mends": {
                isWall(p);
                int least = mends(row(p, s.walls.get(p)));
                err(least > 1000, 2);
                return least;
            }
            case "wish": {
                isWall(p);
                within(q, 0, 3);
                err(sheets[q] == null, 2);
                List<Integer> wanted = new ArrayList<>();
                for (int number : sheets[q]) {
                    within(number, 0, s.words.size() - 1);
                    wanted.addAll(s.words.get(number));
                }
                List<Integer> row = row(p, s.walls.get(p));
                err(row.size() != wanted.size(), 2);
                int unlike = 0;
                for (int i = 0; i < row.size(); i++) {
                    unlike += row.get(i).equals(wanted.get(i)) ? 0 : 1;
                }
                return unlike;
            }
            case "heap": {
                within(p, 1, 26);
                within(q, -1, 99);
                int was = s.heap[p];
                s.heap[p] = q == -1 ? was : q;
                return was;
            }
            case "price": {
                within(p, 1, 26);
                return price(p);
            }
            case "have": {
                within(p, 0, 1);
                within(q, 0, p == 0 ? 3 : 99999);
                int was = p == 0 ? s.season : s.purse;
                s.season = p == 0 ? q : s.season;
                s.purse = p == 1 ? q : s.purse;
                return was;
            }
            case "lay": {
                isWall(p);
                within(q, 0, s.walls.get(p).length - 1);
                within(r, 1, 26);
                within(a[3], 0, 1);
                err(s.walls.get(p)[q] > 0, 3);
                if (a[3] == 0) {
                    err(s.heap[r] == 0, 3);
                    s.heap[r]--;
                } else {
                    err(s.purse < price(r), 3);
                    s.purse -= price(r);
                }
                s.walls.get(p)[q] = r;
                return letters(s.walls.get(p)).size();
            }
            case "falls": {
                isWall(p);
                List<Integer> had = letters(s.walls.get(p));
                for (int l : had) {
                    s.heap[l] = Math.min(99, s.heap[l] + 1);
                }
                s.walls.set(p, new int[s.walls.get(p).length]);
                return had.size();
            }
            case "builds": {
                within(p, 1, 7);
                within(q, 0, 1);
                return builds(p, q);
            }
            case "years": {
                within(p, 1, 20);
                int n = 0;
                for (int i = 0; i < p; i++) {
                    n += year();
                }
                return n;
            }
            case "seed": {
                int was = s.z;
                s.z = p;
                return was;
            }
            default:
                return act3(call, p, q, r, a);
        }
    }

    private int act3(String call, int p, int q, int r, long[] a) {
        switch (call) {
            case "voice": {
                isWall(p);
                within(q, 0, 3);
                trace.clear();
                return new Mouth(s.kinds.get(p), s.ms.get(p), p).say(q, r);
            }
            case "body":
                err(p < 0 || p >= trace.size(), 2);
                return trace.get(p);
            case "sheet":
                within(p, 0, 3);
                err(q != 0 && q != 8 && q != 16 && q != 32, 1);
                if (q == 0) {
                    sheets[p] = null;
                    return 1;
                }
                err(r < 0, 3);
                within(r, 0, 24);
                sheets[p] = new int[r];
                sheetBits[p] = q;
                return 1;
            case "put":
                within(p, 0, 3);
                err(sheets[p] == null, 2);
                within(q, 0, sheets[p].length - 1);
                sheets[p][q] = sheetBits[p] == 32 ? r : r & ((1 << sheetBits[p]) - 1);
                return 1;
            case "move": {
                within(p, 0, 3);
                within(r, 0, 3);
                err(sheets[p] == null || sheets[r] == null, 2);
                err(sheetBits[p] != sheetBits[r], 5);
                long n = a[4];
                within(n, 0, 24);
                within(q, 0, sheets[p].length - n);
                within(a[3], 0, sheets[r].length - n);
                int[] c = Arrays.copyOfRange(sheets[p], q, q + (int) n);
                for (int i = 0; i < n; i++) {
                    sheets[r][(int) a[3] + i] = c[i];
                }
                return (int) n;
            }
            case "bricks": {
                within(p, 0, 3);
                isWall(q);
                err(sheets[p] == null, 2);
                int came = 0;
                while (came < sheets[p].length && came < s.walls.get(q).length
                        && sheets[p][came] >= 0 && sheets[p][came] <= 26) {
                    s.walls.get(q)[came] = sheets[p][came];
                    came++;
                }
                return came;
            }
            case "image":
                image = s.copy();
                return ++images;
            case "restore":
                err(image == null, 2);
                s = image.copy();
                return s.walls.size();
            case "tell":
                err(s.waiting.size() == 24, 4);
                s.waiting.add(p);
                return s.waiting.size();
            case "check": {
                List<Integer> waited = s.waiting;
                s.waiting = new ArrayList<>();
                isWall(p);
                List<Integer> said = says(row(p, s.walls.get(p)));
                err(said == null, 2);
                if (waited.equals(said)) {
                    return 0;
                }
                int i = 0;
                while (i < waited.size() && i < said.size() && waited.get(i).equals(said.get(i))) {
                    i++;
                }
                return i + 1;
            }
            case "count":
                within(p, 0, 6);
                return new int[] {s.walls.size(), s.words.size(), Arrays.stream(s.heap).sum(), s.tape.length(),
                    s.waiting.size(), trace.size(), s.z}[p];
            case "told":
                within(p, 1, 6);
                return told[p];
            default:
                throw new IllegalArgumentException(call);
        }
    }

    // ---- rows

    private static List<Integer> letters(int[] bricks) {
        List<Integer> out = new ArrayList<>();
        for (int b : bricks) {
            if (b > 0) {
                out.add(b);
            }
        }
        return out;
    }

    private List<Integer> row(int wall, int[] bricks) {
        return rowAs(s.kinds.get(wall), wall, bricks);
    }

    private List<Integer> rowAs(int kind, int wall, int[] bricks) {
        List<Integer> out = new ArrayList<>();
        int m = s.ms.get(wall);
        switch (kind) {
            case 0:
                return letters(bricks);
            case 1:
                out.addAll(rowAs(0, wall, bricks));
                Collections.reverse(out);
                return out;
            case 2: {
                List<Integer> all = rowAs(0, wall, bricks);
                for (int i = 0; i < all.size(); i += 2) {
                    out.add(all.get(i));
                }
                return out;
            }
            case 3:
                out.addAll(rowAs(0, wall, bricks));
                if (m != wall && m < s.walls.size()) {
                    out.addAll(letters(s.walls.get(m)));
                }
                return out;
            case 4:
                for (int l : rowAs(1, wall, bricks)) {
                    out.add(27 - l);
                }
                return out;
            case 5:
                out.addAll(rowAs(3, wall, bricks));
                Collections.reverse(out);
                return out;
            default: {
                List<Integer> all = rowAs(0, wall, bricks);
                for (int i = 0; i < all.size(); i++) {
                    int l = all.get(i);
                    if (s.texts[0] != null) {
                        l = worth(s.texts[0], Map.of('l', l, 'i', i, 'n', all.size(), 'm', m));
                        l = l < 1 || l > 26 ? 1 : l;
                    }
                    out.add(l);
                }
                return out;
            }
        }
    }

    private boolean with(int wall, int place, int letter) {
        int[] c = s.walls.get(wall).clone();
        c[place] = letter;
        return ways(row(wall, c)) > 0;
    }

    private int others(int wall, int place) {
        int bits = 0;
        for (int l = 1; l <= 26; l++) {
            bits += l != s.walls.get(wall)[place] && with(wall, place, l) ? 1 << l : 0;
        }
        return bits;
    }

    // ---- laws: due is the set of SORTS that may come next, as text; "." where a LAW may end

    private static String after(int sort) {
        return new String[] {"1", "23", "3", "4.", "0"}[sort];
    }

    private boolean at(List<Integer> row, int at, List<Integer> word) {
        return at + word.size() <= row.size() && row.subList(at, at + word.size()).equals(word);
    }

    private double ways(List<Integer> row) {
        return ways(row, 0, "0", new HashMap<>());
    }

    private double ways(List<Integer> row, int at, String due, Map<String, Double> memory) {
        if (at == row.size()) {
            return due.indexOf('.') >= 0 ? 1 : 0;
        }
        String key = at + " " + due;
        if (!memory.containsKey(key)) {
            double n = 0;
            for (int w = 0; w < s.words.size(); w++) {
                if (due.indexOf('0' + s.sorts.get(w)) >= 0 && at(row, at, s.words.get(w))) {
                    n += ways(row, at + s.words.get(w).size(), after(s.sorts.get(w)), memory);
                }
            }
            memory.put(key, n);
        }
        return memory.get(key);
    }

    private int stuck(List<Integer> row) {
        TreeSet<String> open = new TreeSet<>(List.of("00 0"));
        int greatest = 0;
        while (!open.isEmpty()) {
            String one = open.pollFirst();
            int at = Integer.parseInt(one.substring(0, 2));
            greatest = Math.max(greatest, at);
            for (int w = 0; w < s.words.size(); w++) {
                if (one.substring(3).indexOf('0' + s.sorts.get(w)) >= 0 && at(row, at, s.words.get(w))) {
                    open.add(String.format("%02d %s", at + s.words.get(w).size(), after(s.sorts.get(w))));
                }
            }
        }
        return greatest;
    }

    private List<Integer> says(List<Integer> row) {
        List<Integer> said = new ArrayList<>();
        return says(row, 0, "0", said, new TreeSet<>()) ? said : null;
    }

    private boolean says(List<Integer> row, int at, String due, List<Integer> said, TreeSet<String> lost) {
        if (at == row.size()) {
            return due.indexOf('.') >= 0;
        }
        for (int w = 0; w < s.words.size(); w++) {
            if (due.indexOf('0' + s.sorts.get(w)) >= 0 && at(row, at, s.words.get(w))
                    && !lost.contains((at + s.words.get(w).size()) + " " + after(s.sorts.get(w)))) {
                said.add(w);
                if (says(row, at + s.words.get(w).size(), after(s.sorts.get(w)), said, lost)) {
                    return true;
                }
                said.remove(said.size() - 1);
            }
        }
        lost.add(at + " " + due);
        return false;
    }

    private int mends(List<Integer> row) {
        return mends(row, 0, "0", new HashMap<>());
    }

    private int mends(List<Integer> row, int at, String due, Map<String, Integer> memory) {
        if (at == row.size()) {
            return due.indexOf('.') >= 0 ? 0 : 100000;
        }
        String key = at + " " + due;
        if (!memory.containsKey(key)) {
            int least = 100000;
            for (int w = 0; w < s.words.size(); w++) {
                List<Integer> word = s.words.get(w);
                if (due.indexOf('0' + s.sorts.get(w)) >= 0 && at + word.size() <= row.size()) {
                    int unlike = 0;
                    for (int i = 0; i < word.size(); i++) {
                        unlike += word.get(i).equals(row.get(at + i)) ? 0 : 1;
                    }
                    least = Math.min(least, unlike + mends(row, at + word.size(), after(s.sorts.get(w)), memory));
                }
            }
            memory.put(key, least);
        }
        return memory.get(key);
    }

    private int builds(int k, int what) {
        List<String> clauses = List.of("013", "0123");
        List<String> patterns = new ArrayList<>(clauses);
        for (int i = 0; i < patterns.size(); i++) {
            for (String clause : clauses) {
                if (patterns.get(i).length() + 1 + clause.length() <= 7) {
                    patterns.add(patterns.get(i) + "4" + clause);
                }
            }
        }
        List<Integer> found = new ArrayList<>();
        for (String pattern : patterns) {
            if (pattern.length() <= k) {
                List<List<Integer>> rows = new ArrayList<>(List.of(List.of()));
                for (char sort : pattern.toCharArray()) {
                    List<List<Integer>> longer = new ArrayList<>();
                    for (List<Integer> row : rows) {
                        for (int w = 0; w < s.words.size(); w++) {
                            if (s.sorts.get(w) == sort - '0') {
                                List<Integer> more = new ArrayList<>(row);
                                more.add(w);
                                longer.add(more);
                            }
                        }
                    }
                    rows = longer;
                }
                for (List<Integer> row : rows) {
                    int[] needed = new int[27];
                    int digits = 0;
                    for (int w : row) {
                        s.words.get(w).forEach(l -> needed[l]++);
                        digits = digits * 16 + w + 1;
                    }
                    boolean enough = true;
                    for (int l = 1; l < 27; l++) {
                        enough &= needed[l] <= s.heap[l];
                    }
                    if (enough) {
                        found.add(digits);
                    }
                }
            }
        }
        return what == 0 ? found.size() : found.isEmpty() ? 0 : Collections.min(found);
    }

    // ---- the heap

    private int price(int letter) {
        if (s.texts[1] == null) {
            return letter == 5 ? 1 + s.season : 1;
        }
        int v = worth(s.texts[1], Map.of('l', letter, 's', s.season, 'h', s.heap[letter]));
        return v < 0 ? 0 : v > 999 ? 999 : v;
    }

    private int cost(int wall) {
        return letters(s.walls.get(wall)).stream().mapToInt(this::price).sum();
    }

    private int draw() {
        s.z = (int) (s.z * 1103515245L + 12345L);
        return (int) ((s.z & 0xffffffffL) / 256);
    }

    private int year() {
        s.season = draw() % 4;
        s.purse = Math.min(99999, s.purse + 50);
        int fallen = 0;
        for (int w = 0; w < s.walls.size(); w++) {
            int[] bricks = s.walls.get(w);
            if (!letters(bricks).isEmpty()) {
                int place = draw() % bricks.length;
                if (bricks[place] > 0 && with(w, place, 0)) {
                    s.heap[bricks[place]] = Math.min(99, s.heap[bricks[place]] + 1);
                    bricks[place] = 0;
                    fallen++;
                }
            }
        }
        return fallen;
    }

    // ---- voices: real classes in place of a table

    private class Mouth {
        final int kind;
        final int m;
        final int k;

        Mouth(int kind, int m, int k) {
            this.kind = kind;
            this.m = m;
            this.k = k;
        }

        int say(int voice, int x) {
            V v = kind == 0 ? new V() : kind == 1 ? new Back() : kind == 2 ? new Second() : kind == 3 ? new Corner()
                : kind == 4 ? new Turned() : kind == 5 ? new Faced() : new TheTold();
            return voice == 0 ? v.reads(x) : voice == 1 ? v.says(x) : voice == 2 ? v.falls(x) : v.mends(x);
        }

        class V {
            void body(int number) {
                if (trace.size() < 30) {
                    trace.add(number);
                }
            }

            int reads(int x) {
                body(10);
                return x + k;
            }

            int says(int x) {
                body(11);
                return reads(x) * 2;
            }

            int falls(int x) {
                body(12);
                return says(x) - m;
            }

            int mends(int x) {
                body(13);
                err(m == k, 6);
                return x / (m - k);
            }
        }

        class Back extends V {
            @Override int reads(int x) {
                body(20);
                return super.reads(x) - 6;
            }

            @Override int mends(int x) {
                body(21);
                return super.mends(x) + says(1);
            }
        }

        class Second extends V {
            @Override int says(int x) {
                body(30);
                return 0 - super.says(x);
            }
        }

        class Corner extends V {
            @Override int falls(int x) {
                body(40);
                return super.falls(x / 2);
            }
        }

        class Turned extends Back {
            @Override int reads(int x) {
                body(50);
                return super.reads(x) * 3;
            }

            @Override int falls(int x) {
                body(51);
                return super.falls(x) ^ k;
            }
        }

        class Faced extends Corner {
            @Override int says(int x) {
                body(60);
                return super.says(x + 1);
            }
        }

        class TheTold extends V {
            @Override int reads(int x) {
                body(70);
                return 8;
            }

            @Override int says(int x) {
                body(71);
                return super.says(x) + m;
            }
        }
    }

    // ---- texts

    /** Frames of open (: {compared, !s that wait in it}; the last one is the innermost. */
    static int fault(String t, String names) {
        List<int[]> frames = new ArrayList<>(List.of(new int[2]));
        boolean operand = true;
        int digits = 0;
        for (int i = 0; i < t.length(); i++) {
            char c = t.charAt(i);
            int[] top = frames.get(frames.size() - 1);
            int open = frames.size() - 1;
            for (int[] frame : frames) {
                open += frame[1];
            }
            boolean digit = c >= '0' && c <= '9';
            if (operand) {
                if (digit || names.indexOf(c) >= 0) {
                    operand = false;
                    digits = digit ? 1 : 9;
                    top[1] = 0;
                } else if ((c == '!' || c == '(') && open < 5) {
                    if (c == '!') {
                        top[1]++;
                    } else {
                        frames.add(new int[2]);
                    }
                } else {
                    return i;
                }
            } else if (digit) {
                if (digits >= 4) {
                    return i;
                }
                digits++;
            } else if (c == ')') {
                if (frames.size() == 1) {
                    return i;
                }
                frames.remove(frames.size() - 1);
                frames.get(frames.size() - 1)[1] = 0;
                digits = 9;
            } else if ("|&<=>+-*/%".indexOf(c) >= 0) {
                if ("<=>".indexOf(c) >= 0) {
                    if (top[0] == 1) {
                        return i;
                    }
                    top[0] = 1;
                } else if ("|&".indexOf(c) >= 0) {
                    top[0] = 0;
                }
                operand = true;
            } else {
                return i;
            }
        }
        return operand || frames.size() > 1 ? t.length() : -1;
    }

    static int worth(String t, Map<Character, Integer> names) {
        List<Integer> values = new ArrayList<>();
        List<Character> operators = new ArrayList<>();
        for (int i = 0; i < t.length(); i++) {
            char c = t.charAt(i);
            if (c >= '0' && c <= '9') {
                int j = i;
                while (j < t.length() && t.charAt(j) >= '0' && t.charAt(j) <= '9') {
                    j++;
                }
                values.add(Integer.parseInt(t.substring(i, j)));
                i = j - 1;
            } else if (names.containsKey(c)) {
                values.add(names.get(c));
            } else if (c == '(' || c == '!') {
                operators.add(c);
            } else if (c == ')') {
                while (last(operators) != '(') {
                    fold(values, operators);
                }
                operators.remove(operators.size() - 1);
            } else {
                while (!operators.isEmpty() && rank(last(operators)) >= rank(c)) {
                    fold(values, operators);
                }
                operators.add(c);
            }
        }
        while (!operators.isEmpty()) {
            fold(values, operators);
        }
        return values.get(0);
    }

    private static char last(List<Character> operators) {
        return operators.get(operators.size() - 1);
    }

    private static int rank(char c) {
        return "(".indexOf(c) >= 0 ? 0 : "|".indexOf(c) >= 0 ? 1 : "&".indexOf(c) >= 0 ? 2 : "<=>".indexOf(c) >= 0 ? 3
            : "+-".indexOf(c) >= 0 ? 4 : "*/%".indexOf(c) >= 0 ? 5 : 6;
    }

    private static void fold(List<Integer> values, List<Character> operators) {
        char c = operators.remove(operators.size() - 1);
        int b = values.remove(values.size() - 1);
        if (c == '!') {
            values.add(b == 0 ? 1 : 0);
            return;
        }
        int a = values.remove(values.size() - 1);
        switch (c) {
            case '|': values.add((a | b) != 0 ? 1 : 0); break;
            case '&': values.add(a == 0 || b == 0 ? 0 : 1); break;
            case '<': values.add(Integer.compare(a, b) < 0 ? 1 : 0); break;
            case '=': values.add(Integer.compare(a, b) == 0 ? 1 : 0); break;
            case '>': values.add(Integer.compare(a, b) > 0 ? 1 : 0); break;
            case '+': values.add((int) ((long) a + b)); break;
            case '-': values.add((int) ((long) a - b)); break;
            case '*': values.add((int) ((long) a * b)); break;
            case '/': values.add(b == 0 ? 0 : (int) ((long) a / b)); break;
            default: values.add(b == 0 ? 0 : (int) ((long) a % b)); break;
        }
    }
}
