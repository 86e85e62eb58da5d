import java.util.List;
import java.util.Set;
import java.util.TreeSet;
import java.util.function.Consumer;
import java.util.function.Supplier;

/**
 * A refused call changes nothing but what the document says, and a call that asks changes nothing at all. Of two objects
 * made alike one answers the call; then all that can be seen of both is the same, but for the ERROR that is told.
 */
final class ChangesNothingTest {
    private static final Due DUE = new Due();
    private static final List<String> ERRORS = List.of("", "BEYOND", "NONE", "STATE", "FULL", "KIND", "PARTED");
    private static final Set<String> NEVER_REFUSED = Set.of("seed", "image");
    private static final Set<String> REFUSED = new TreeSet<>();

    private static final String[] IN_A_NEW_OBJECT = {
        "wallIs 0 0 BEYOND", "as 0 0 BEYOND", "set 0 0 0 BEYOND", "brick 0 0 0 BEYOND", "brickOf 0 0 BEYOND",
        "readAs 0 0 BEYOND", "letter 0 1 BEYOND", "wordIs 0 -1 BEYOND", "says 0 -1 BEYOND", "doors 0 1 BEYOND",
        "spare 0 BEYOND", "others 0 0 BEYOND", "steps 0 BEYOND", "mends 0 BEYOND", "wish 0 0 BEYOND",
        "lay 0 0 1 0 BEYOND", "lay 0 0 1 1 BEYOND", "falls 0 BEYOND", "voice 0 0 0 BEYOND", "body 0 NONE",
        "put 0 0 0 NONE", "move 0 0 0 0 0 NONE", "bricks 0 0 BEYOND", "restore NONE",
    };
    private static final String[] IN_A_VILLAGE = {
        "wall -1 3 BEYOND", "wall 70 3 BEYOND", "wall 0 -1 BEYOND", "wall 0 25 BEYOND",
        "wallIs -1 0 BEYOND", "wallIs 4 0 BEYOND", "wallIs 0 -1 BEYOND", "wallIs 0 8 BEYOND",
        "as -1 0 BEYOND", "as 4 0 BEYOND", "as 0 -1 BEYOND", "as 0 7 BEYOND", "as 0 1 KIND", "as 1 2 KIND", "as 2 3 KIND",
        "set -1 0 1 BEYOND", "set 4 0 1 BEYOND", "set 0 -1 1 BEYOND", "set 0 2 1 BEYOND", "set 0 0 -1 BEYOND",
        "set 0 0 7 BEYOND", "set 0 1 -1 BEYOND", "set 0 1 10 BEYOND",
        "brick -1 0 1 BEYOND", "brick 4 0 1 BEYOND", "brick 0 -1 1 BEYOND", "brick 0 5 1 BEYOND", "brick 0 0 -1 BEYOND",
        "brick 0 0 27 BEYOND",
        "brickOf -1 0 BEYOND", "brickOf 4 0 BEYOND", "brickOf 0 -1 BEYOND", "brickOf 0 5 BEYOND",
        "readAs -1 0 BEYOND", "readAs 4 0 BEYOND", "readAs 0 -1 BEYOND", "readAs 0 4 BEYOND",
        "word -1 1 BEYOND", "word 5 1 BEYOND", "word 0 0 BEYOND", "word 0 27 BEYOND",
        "letter -1 1 BEYOND", "letter 6 1 BEYOND", "letter 0 0 BEYOND", "letter 0 27 BEYOND", "letter 5 1 FULL",
        "wordIs -1 0 BEYOND", "wordIs 6 0 BEYOND", "wordIs 0 -3 BEYOND", "wordIs 0 1 BEYOND",
        "feed 49 0 BEYOND", "feed 49 9 BEYOND", "feed 49 -1 BEYOND",
        "text -1 BEYOND", "text 2 BEYOND", "untell -1 BEYOND", "untell 2 BEYOND",
        "says -1 0 BEYOND", "says 4 0 BEYOND", "says 0 -2 BEYOND", "says 0 4 BEYOND", "says 1 -2 BEYOND", "says 1 -1 NONE",
        "says 1 0 NONE", "says 1 9 NONE",
        "doors -1 1 BEYOND", "doors 4 1 BEYOND", "doors 0 0 BEYOND", "doors 0 13 BEYOND",
        "spare -1 BEYOND", "spare 4 BEYOND", "others -1 0 BEYOND", "others 4 0 BEYOND", "others 0 -1 BEYOND",
        "others 0 5 BEYOND", "steps -1 BEYOND", "steps 4 BEYOND",
        "mends -1 BEYOND", "mends 4 BEYOND", "mends 2 NONE", "mends 3 NONE",
        "wish -1 0 BEYOND", "wish 4 0 BEYOND", "wish 0 -1 BEYOND", "wish 0 4 BEYOND", "wish 0 3 NONE", "wish 0 1 BEYOND",
        "wish 1 0 NONE", "wish 3 0 NONE",
        "heap 0 1 BEYOND", "heap 27 1 BEYOND", "heap 3 -2 BEYOND", "heap 3 100 BEYOND",
        "price 0 BEYOND", "price 27 BEYOND",
        "have -1 0 BEYOND", "have 2 0 BEYOND", "have 0 -1 BEYOND", "have 0 4 BEYOND", "have 1 -1 BEYOND",
        "have 1 100000 BEYOND",
        "lay -1 0 3 0 BEYOND", "lay 4 0 3 0 BEYOND", "lay 0 -1 3 0 BEYOND", "lay 0 5 3 0 BEYOND", "lay 0 4 0 0 BEYOND",
        "lay 0 4 27 0 BEYOND", "lay 0 4 3 -1 BEYOND", "lay 0 4 3 2 BEYOND", "lay 0 0 3 0 STATE", "lay 0 0 3 1 STATE",
        "lay 0 4 9 0 STATE", "lay 0 4 26 1 STATE", "lay 0 4 7 1 STATE",
        "falls -1 BEYOND", "falls 4 BEYOND",
        "builds 0 0 BEYOND", "builds 8 0 BEYOND", "builds 3 -1 BEYOND", "builds 3 2 BEYOND",
        "years 0 BEYOND", "years 21 BEYOND", "years -1 BEYOND",
        "voice -1 0 5 BEYOND", "voice 4 0 5 BEYOND", "voice 0 -1 5 BEYOND", "voice 0 4 5 BEYOND",
        "body -1 NONE", "body 2 NONE",
        "sheet -1 8 1 BEYOND", "sheet 4 8 1 BEYOND", "sheet -1 0 1 BEYOND", "sheet 4 0 1 BEYOND", "sheet 0 -8 1 BEYOND",
        "sheet 0 1 1 BEYOND", "sheet 0 24 1 BEYOND", "sheet 0 64 1 BEYOND", "sheet 0 8 25 BEYOND", "sheet 3 16 25 BEYOND",
        "sheet 0 8 -1 STATE", "sheet 3 32 -1 STATE",
        "put -1 0 5 BEYOND", "put 4 0 5 BEYOND", "put 3 0 5 NONE", "put 0 -1 5 BEYOND", "put 0 4 5 BEYOND",
        "move -1 0 0 0 1 BEYOND", "move 4 0 0 0 1 BEYOND", "move 0 0 -1 0 1 BEYOND", "move 0 0 4 0 1 BEYOND",
        "move 3 0 0 0 1 NONE", "move 0 0 3 0 1 NONE", "move 0 0 1 0 1 KIND", "move 1 0 0 0 1 KIND",
        "move 0 -1 2 0 1 BEYOND", "move 0 0 2 -1 1 BEYOND", "move 0 0 2 0 -1 BEYOND", "move 0 1 2 0 4 BEYOND",
        "move 0 0 2 1 4 BEYOND", "move 0 5 2 0 0 BEYOND", "move 0 0 2 5 0 BEYOND", "move 0 0 2 0 5 BEYOND",
        "move 0 2 0 0 3 BEYOND", "move 0 0 0 2 3 BEYOND",
        "bricks -1 0 BEYOND", "bricks 4 0 BEYOND", "bricks 0 -1 BEYOND", "bricks 0 4 BEYOND", "bricks 3 0 NONE",
        "count -1 BEYOND", "count 7 BEYOND", "told -1 BEYOND", "told 0 BEYOND", "told 7 BEYOND",
    };
    private static final String[] IN_A_FULL_TOWN = {
        "wall 0 1 FULL", "wall 69 24 FULL", "wall 70 1 BEYOND", "wall 0 25 BEYOND", "word 0 1 FULL", "word 4 26 FULL",
        "word 5 1 BEYOND", "word 0 27 BEYOND", "letter 11 1 FULL", "letter 11 26 FULL", "letter 11 27 BEYOND",
        "letter 12 1 BEYOND", "feed 49 1 FULL", "feed 49 8 FULL", "feed 49 9 BEYOND", "feed 49 0 BEYOND", "tell 5 FULL",
        "tell -1000004 FULL", "lay 0 23 1 1 STATE", "heap 26 100 BEYOND", "have 1 100000 BEYOND", "brick 5 24 1 BEYOND",
        "set 5 1 10 BEYOND", "sheet 3 32 25 BEYOND", "put 3 24 1 BEYOND", "move 3 0 3 1 24 BEYOND",
        "wallIs 6 0 BEYOND", "wordIs 12 0 BEYOND", "wordIs 11 6 BEYOND", "says 0 24 BEYOND", "falls 6 BEYOND",
    };

    private static final String[] WITH_A_LONG_TAPE = {
        "feed 3550499 5 FULL", "feed 3550499 6 FULL", "feed 3550499 7 FULL", "feed 3550499 8 FULL", "feed 3550499 9 BEYOND",
    };
    private static final String[] ASKED_IN_A_VILLAGE = {
        "wallIs 0 0", "wallIs 0 1", "wallIs 0 2", "wallIs 0 3", "wallIs 0 4", "wallIs 0 5", "wallIs 0 6", "wallIs 0 7",
        "wallIs 1 4", "wallIs 2 3", "as 0 0", "as 1 0", "brickOf 0 0", "brickOf 0 4", "readAs 0 0", "readAs 2 1",
        "wordIs 0 -1", "wordIs 5 -2", "wordIs 5 5", "says 0 -1", "says 0 3", "doors 0 1", "doors 0 12", "doors 3 12",
        "spare 0", "spare 1", "others 0 4", "others 0 0", "steps 0", "steps 1", "mends 0", "mends 1", "wish 0 0",
        "heap 3 -1", "heap 7 -1", "price 5", "price 26", "builds 7 0", "builds 7 1", "builds 1 1", "count 0", "count 6",
        "body 0", "body 1", "told 1", "told 6", "move 0 0 0 0 4", "move 2 1 0 2 0", "move 1 3 1 3 0", "have 0 2",
        "have 1 7", "seed 12345", "set 0 1 1", "set 1 0 1", "brick 0 4 0", "brick 0 0 1", "put 0 1 1", "falls 3",
    };

    public static void main(String[] args) {
        for (String call : IN_A_NEW_OBJECT) {
            DUE.test("refused in a new object: " + call, () -> refused(LetterWalls::new, call));
        }
        for (String call : IN_A_VILLAGE) {
            DUE.test("refused in a village: " + call, () -> refused(Worlds::villageWithTape, call));
        }
        for (String call : IN_A_FULL_TOWN) {
            DUE.test("refused in a full town: " + call, () -> refused(Worlds::fullTown, call));
        }
        for (String call : WITH_A_LONG_TAPE) {
            DUE.test("refused by a long TAPE: " + call, () -> refused(Worlds::villageWithLongTape, call));
        }
        for (String call : ASKED_IN_A_VILLAGE) {
            DUE.test("asked, or changed to what it is: " + call, () -> asked(call));
        }
        for (String call : new String[] {"check -1 BEYOND", "check 4 BEYOND", "check 1 NONE", "check 3 NONE"}) {
            DUE.test("none wait then, too, and no more is changed: " + call, () -> refusedCheck(call));
        }
        for (String call : new String[] {"voice 1 3 4 PARTED", "voice 1 3 0 PARTED"}) {
            DUE.test("but for THE TRACE nothing is changed: " + call, () -> parted(call));
        }
        for (String bytes : new String[] {"", "l+", "(l", "9999999", "l-l-l-l-l-", "?"}) {
            DUE.test("a FAULT empties THE TAPE, and no more: " + bytes, () -> fault(bytes));
        }
        DUE.test("each act that has ERRORS is refused here", ChangesNothingTest::allActs);
        DUE.end();
    }

    private static void allActs() {
        for (String act : Calls.NAMES) {
            DUE.is(act, NEVER_REFUSED.contains(act) ? 0 : 1, REFUSED.contains(act) ? 1 : 0);
        }
    }

    private static void toldMore(LetterWalls one, LetterWalls other, int error) {
        for (int k = 1; k <= 6; k++) {
            DUE.is("told " + k, one.told(k) + (k == error ? 1 : 0), other.told(k));
        }
    }

    private static int answer(LetterWalls x, String[] parts, int numbers) {
        long[] arguments = new long[numbers];
        for (int i = 0; i < numbers; i++) {
            arguments[i] = Long.parseLong(parts[i + 1]);
        }
        return Calls.answer(x, parts[0], arguments);
    }

    /** A call by its name, its numbers, and the ERROR that is due. */
    private static int refuse(LetterWalls x, String call) {
        String[] parts = call.split(" ");
        int error = ERRORS.indexOf(parts[parts.length - 1]);
        DUE.is("the call", Due.LOW - error, answer(x, parts, parts.length - 2));
        REFUSED.add(parts[0]);
        return error;
    }

    private static void ask(LetterWalls x, String call) {
        String[] parts = call.split(" ");
        DUE.is("the call is no ERROR", 0, answer(x, parts, parts.length - 1) < Due.LOW ? 1 : 0);
    }

    private static LetterWalls after(LetterWalls x, Consumer<LetterWalls> call) {
        call.accept(x);
        return x;
    }

    private static void refused(Supplier<LetterWalls> made, String call) {
        Views.alike(DUE, made, () -> after(made.get(), x -> refuse(x, call)));
        LetterWalls x = made.get();
        toldMore(made.get(), x, refuse(x, call));
    }

    private static void asked(String call) {
        Views.alike(DUE, Worlds::villageWithTape, () -> after(Worlds.villageWithTape(), x -> ask(x, call)));
        LetterWalls x = Worlds.villageWithTape();
        ask(x, call);
        toldMore(Worlds.villageWithTape(), x, 0);
    }

    private static void refusedCheck(String call) {
        Views.alike(DUE, () -> after(Worlds.villageWithTape(), x -> x.check(0)),
            () -> after(Worlds.villageWithTape(), x -> refuse(x, call)));
        LetterWalls x = Worlds.villageWithTape();
        toldMore(Worlds.villageWithTape(), x, refuse(x, call));
    }

    /** THE TRACE then holds what began: the BODIES of the latest voice(). */
    private static void parted(String call) {
        Views.alike(DUE, Worlds::villageWithTape, () -> after(Worlds.villageWithTape(), x -> refuse(x, call)), "trace");
        LetterWalls x = Worlds.villageWithTape();
        toldMore(Worlds.villageWithTape(), x, refuse(x, call));
        DUE.is("BODIES", 2, x.count(5));
        DUE.is("mends of BACK", 21, x.body(0));
        DUE.is("mends of WALL", 13, x.body(1));
    }

    private static void fault(String bytes) {
        for (int use = 0; use < 2; use++) {
            int ofUse = use;
            Consumer<LetterWalls> call = x -> DUE.is("a FAULT", 1, Due.text(x, ofUse, bytes) <= -10 ? 1 : 0);
            Views.alike(DUE, Worlds::village, () -> after(Worlds.village(), call));
            LetterWalls x = Worlds.village();
            call.accept(x);
            toldMore(Worlds.village(), x, 0);
        }
    }
}
