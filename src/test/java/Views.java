import java.util.ArrayList;
import java.util.LinkedHashMap;
import java.util.List;
import java.util.Map;
import java.util.function.Consumer;
import java.util.function.Supplier;

/** All that can be seen of an object. */
final class Views {
    // An object is used for 512 calls at most, and the dearest of Worlds is made by some 100.
    private static final int CALLS_MOST = 400;
    private static final Map<String, Consumer<Look>> VIEWS = views();

    private Views() {
    }

    /** Calls on an object, and what it answered. */
    private static final class Look {
        private final LetterWalls x;
        private final List<String> answers = new ArrayList<>();

        Look(LetterWalls seen) {
            x = seen;
        }

        void at(String name, long... arguments) {
            int answer = Calls.answer(x, name, arguments);
            answers.add(Calls.shown(name, arguments) + " " + answer);
        }

        void each(String name, int from, int to, long... more) {
            for (int i = from; i <= to; i++) {
                long[] arguments = new long[more.length + 1];
                System.arraycopy(more, 0, arguments, 0, more.length);
                arguments[more.length] = i;
                at(name, arguments);
            }
        }
    }

    /** All that can be seen of an object; what an IMAGE keeps is seen once more behind restore(). */
    private static Map<String, Consumer<Look>> views() {
        Map<String, Consumer<Look>> kept = new LinkedHashMap<>();
        kept.put("counts", look -> look.each("count", 0, 4));
        kept.put("z", look -> look.at("count", 6));
        kept.put("walls", Views::walls);
        kept.put("what walls are read as", Views::rows);
        kept.put("words", Views::words);
        kept.put("heap", Views::heap);
        kept.put("prices", look -> look.each("price", 1, 26));
        kept.put("tape", Views::tape);
        kept.put("what waits", look -> look.at("check", 0));
        kept.put("what waits, and one more", Views::waiting);
        kept.put("texts", look -> look.each("untell", 0, 1));
        kept.put("a year", look -> look.at("years", 3));
        Map<String, Consumer<Look>> all = new LinkedHashMap<>(kept);
        kept.forEach((name, view) -> all.put(name + " of the IMAGE", look -> {
            look.at("restore");
            view.accept(look);
        }));
        all.put("images", look -> look.at("image"));
        all.put("trace", look -> {
            look.at("count", 5);
            look.each("body", 0, 6);
        });
        for (int i = 0; i < 4; i++) {
            int sheet = i;
            all.put("sheet " + sheet, look -> sheet(look, sheet));
        }
        return all;
    }

    private static void walls(Look look) {
        for (int wall = 0; wall <= 6; wall++) {
            look.each("wallIs", 0, 2, wall);
            look.each("brickOf", 0, 24, wall);
        }
    }

    private static void rows(Look look) {
        for (int wall = 0; wall <= 6; wall++) {
            look.each("wallIs", 3, 7, wall);
            look.each("readAs", 0, 24, wall);
        }
    }

    private static void words(Look look) {
        for (int word = 0; word <= 12; word++) {
            look.each("wordIs", -2, 6, word);
        }
    }

    private static void heap(Look look) {
        for (int letter = 1; letter <= 26; letter++) {
            look.at("heap", letter, -1);
        }
        look.at("have", 0, 0);
        look.at("have", 1, 0);
    }

    private static void tape(Look look) {
        look.at("feed", 49, 1);
        look.at("text", 1);
        look.each("price", 1, 26);
    }

    /** In a village the last WORD of four lacks. */
    private static void waiting(Look look) {
        look.at("tell", 2);
        look.at("check", 0);
    }

    private static void sheet(Look look, int sheet) {
        for (int other = 0; other < 4; other++) {
            look.at("move", sheet, 0, other, 0, 0);
        }
        look.at("bricks", sheet, 3);
        look.each("brickOf", 0, 23, 3);
        for (int i = 0; i <= 24; i++) {
            look.at("put", sheet, i, 4);
        }
        look.at("bricks", sheet, 3);
        look.each("brickOf", 0, 23, 3);
    }

    /** Of two objects, each made anew for every view, all is the same, but for some views. */
    static void alike(Due due, Supplier<LetterWalls> one, Supplier<LetterWalls> other,
            String... butFor) {
        VIEWS.forEach((name, view) -> {
            if (!List.of(butFor).contains(name)) {
                Look asDue = new Look(one.get());
                view.accept(asDue);
                Look seen = new Look(other.get());
                view.accept(seen);
                due.is("calls of " + name, 1, asDue.answers.size() <= CALLS_MOST ? 1 : 0);
                due.is(name + " unlike: " + firstUnlike(asDue.answers, seen.answers), 1,
                    asDue.answers.equals(seen.answers) ? 1 : 0);
            }
        });
    }

    private static String firstUnlike(List<String> due, List<String> seen) {
        for (int i = 0; i < Math.min(due.size(), seen.size()); i++) {
            if (!due.get(i).equals(seen.get(i))) {
                return seen.get(i) + " for " + due.get(i);
            }
        }
        return "";
    }
}
