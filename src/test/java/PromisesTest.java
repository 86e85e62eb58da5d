/** For each promise: ordinary inputs, the edges that the document names, and wrong inputs. */
final class PromisesTest {
    private static final Due DUE = new Due();
    private static final int BEYOND = Due.BEYOND;
    private static final int NONE = Due.NONE;
    private static final int STATE = Due.STATE;
    private static final int FULL = Due.FULL;
    private static final int KIND = Due.KIND;
    private static final int PARTED = Due.PARTED;

    private static void is(String call, long want, long got) {
        DUE.is(call, want, got);
    }

    private static LetterWalls plain() {
        return Due.plain();
    }

    private static void rowIs(String what, String want, LetterWalls x, int wall) {
        DUE.rowIs(what, want, x, wall);
    }

    public static void main(String[] args) {
        promise1();
        promise2();
        promise3();
        promise3Ways();
        promise3Stuck();
        promise3Cost();
        promise4();
        promise5();
        promise6And7();
        promise8();
        promise9To11();
        promise12();
        promise13();
        promise13Worth();
        promise14();
        promise15();
        promise16();
        promise17();
        promise18();
        promise19();
        promise20();
        promise21();
        promise22();
        promise23();
        promise24();
        promise25();
        promise26();
        promise27();
        promise28();
        promise29();
        promise30();
        promise31();
        promise32And33();
        promise34();
        promise35();
        promise36And37();
        promise38();
        promise39();
        promise40();
        promise41();
        DUE.end();
    }

    private static void promise1() {
        LetterWalls x = new LetterWalls();
        int[] counts = {0, 0, 0, 0, 0, 0, 1};
        for (int what = 0; what < counts.length; what++) {
            is("1 count " + what, counts[what], x.count(what));
        }
        is("1 season", 0, x.have(0, 0));
        is("1 purse", 100, x.have(1, 100));
        is("1 wall", BEYOND, x.wallIs(0, 0));
        is("1 word", BEYOND, x.wordIs(0, -1));
        is("1 text 0", 0, x.untell(0));
        is("1 text 1", 0, x.untell(1));
        is("1 image", NONE, x.restore());
        is("1 body", NONE, x.body(0));
        is("1 heap", 0, x.heap(26, -1));
        for (int sheet = 0; sheet < 4; sheet++) {
            is("1 sheet", NONE, x.put(sheet, 0, 0));
        }
        is("1 told 1", 2, x.told(1));
        is("1 told 2", 6, x.told(2));
    }

    private static void promise2() {
        LetterWalls x = new LetterWalls();
        is("2 first", 0, x.wall(0, 0));
        is("2 greatest", 1, x.wall(69, 24));
        is("2 kind", 6, x.wallIs(1, 0));
        is("2 m", 9, x.wallIs(1, 1));
        is("2 bricks", 24, x.wallIs(1, 2));
        is("2 open", 0, x.brickOf(1, 23));
        is("2 km below", BEYOND, x.wall(-1, 3));
        is("2 km above", BEYOND, x.wall(70, 3));
        is("2 n below", BEYOND, x.wall(0, -1));
        is("2 n above", BEYOND, x.wall(0, 25));
        for (int i = 2; i < 6; i++) {
            is("2 next", i, x.wall(10, 1));
        }
        is("2 full", FULL, x.wall(0, 1));
        is("2 beyond ahead of full", BEYOND, x.wall(0, 25));
        is("2 count", 6, x.count(0));
    }

    private static void promise3() {
        LetterWalls x = plain();
        int w = Due.wall(x, 27, 1, 9, 2, 9, 4);
        int[] due = {2, 7, 5, 3, 1, 1, 3, 5};
        for (int what = 0; what < due.length; what++) {
            is("3 wallIs " + what, due[what], x.wallIs(w, what));
        }
        is("3 what below", BEYOND, x.wallIs(w, -1));
        is("3 what above", BEYOND, x.wallIs(w, 8));
        is("3 wall below", BEYOND, x.wallIs(-1, 0));
        is("3 wall above", BEYOND, x.wallIs(1, 0));
        int empty = x.wall(0, 0);
        for (int what = 3; what < 8; what++) {
            is("3 empty " + what, 0, x.wallIs(empty, what));
        }
        int[][] laws = {{1, 2, 4}, {1, 2, 3, 4}, {1, 2, 4, 5, 1, 2, 3, 4}, {0, 1, 0, 2, 4, 0}};
        int[][] none = {{1, 2}, {1, 2, 3}, {2, 4}, {1, 2, 4, 5}, {1, 2, 3, 3, 4}, {1, 2, 4, 1, 2, 4}, {5, 1, 2, 4},
            {1, 2, 4, 4}, {1, 4}, {1, 3, 4}, {6}};
        for (int[] law : laws) {
            LetterWalls y = plain();
            is("3 law", 1, y.wallIs(Due.wall(y, 0, law), 4));
        }
        for (int[] law : none) {
            LetterWalls y = plain();
            is("3 no law", 0, y.wallIs(Due.wall(y, 0, law), 4));
            is("3 no way", 0, y.wallIs(0, 5));
        }
    }

    private static void promise3Ways() {
        LetterWalls x = new LetterWalls();
        Due.word(x, 0, 1);
        Due.word(x, 0, 1, 1);
        Due.word(x, 1, 1);
        Due.word(x, 3, 1);
        int w = Due.wall(x, 0, 1, 1, 1, 1);
        is("3 one way", 1, x.wallIs(w, 5));
        is("3 two letters", 0, x.says(w, -1) == 3 ? x.says(w, 0) - 1 : 9);
        Due.word(x, 1, 1, 1);
        is("3 two ways", 2, x.wallIs(w, 5));
        is("3 first of two", 0, x.says(w, 0));
        Due.word(x, 1, 1, 1);
        is("3 twice told", 3, x.wallIs(w, 5));
        LetterWalls y = new LetterWalls();
        for (int i = 0; i < 12; i++) {
            y.word(new int[] {0, 1, 3, 4}[i % 4], 7);
        }
        int v = Due.wallOf(y, 0, 23, 7);
        is("3 held", 999999, y.wallIs(v, 5));
        is("3 held reads", 1, y.wallIs(v, 4));
        is("3 held stuck", 23, y.wallIs(v, 6));
        LetterWalls z = new LetterWalls();
        for (int sort = 0; sort < 5; sort++) {
            z.word(sort, 7);
        }
        int corner = Due.wallOf(z, 31, 24, 7);
        Due.wallOf(z, 0, 24, 7);
        is("3 48 letters", 48, z.wallIs(corner, 3));
        is("3 48 letters read", 1, z.wallIs(corner, 4));
        is("3 11 and 1, 6 and 5, 1 and 9 clauses", 12 + 462 + 10, z.wallIs(corner, 5));
        is("3 48 letters stuck", 48, z.wallIs(corner, 6));
        is("15 48 words", 48, z.says(corner, -1));
        is("15 the first clause has a not", 2, z.says(corner, 2));
        is("20 48 letters", 0, z.mends(corner));
    }

    private static void promise3Stuck() {
        LetterWalls x = plain();
        int w = Due.wall(x, 0, 1, 2, 4, 5, 1, 2, 5, 1);
        is("3 stuck", 6, x.wallIs(w, 6));
        x.brick(w, 0, 2);
        is("3 stuck at once", 0, x.wallIs(w, 6));
        LetterWalls y = plain();
        Due.word(y, 1, 2, 9);
        is("3 whole words alone", 1, y.wallIs(Due.wall(y, 0, 1, 9), 6));
        is("3 the greatest", 3, y.wallIs(Due.wall(y, 0, 1, 2, 9, 9), 6));
        LetterWalls z = new LetterWalls();
        z.word(0, 1);
        is("3 a law goes on though none ends", 1, z.wallIs(Due.wall(z, 0, 1, 1), 6));
    }

    private static void promise3Cost() {
        LetterWalls x = new LetterWalls();
        int w = Due.wall(x, 10, 5, 0, 5, 1);
        is("3 cost", 3, x.wallIs(w, 7));
        x.have(0, 2);
        is("3 cost by season", 7, x.wallIs(w, 7));
        Due.text(x, 1, "l*100");
        is("3 cost by text", 1100, x.wallIs(w, 7));
    }

    private static void promise4() {
        LetterWalls x = new LetterWalls();
        int[][] under = {{0}, {0, 1}, {0, 2}, {0, 3}, {0, 1, 4}, {0, 3, 5}};
        for (int kind = 0; kind < 6; kind++) {
            x.wall(10 * kind, kind + 3);
            int due = 0;
            for (int one : under[kind]) {
                due |= 1 << one;
            }
            for (int as = 0; as < 7; as++) {
                is("4 " + kind + " as " + as, (due >> as & 1) == 1 ? kind + 3 : KIND, x.as(kind, as));
            }
        }
        x.set(0, 0, 6);
        is("4 told as wall", 3, x.as(0, 0));
        is("4 told as told", 3, x.as(0, 6));
        is("4 told as back", KIND, x.as(0, 1));
        is("4 kind below", BEYOND, x.as(0, -1));
        is("4 kind above", BEYOND, x.as(0, 7));
        is("4 wall above", BEYOND, x.as(6, 0));
        is("4 wall below", BEYOND, x.as(-1, 0));
    }

    private static void promise5() {
        LetterWalls x = new LetterWalls();
        x.wall(24, 2);
        is("5 kind", 2, x.set(0, 0, 6));
        is("5 kind is", 6, x.wallIs(0, 0));
        is("5 m", 4, x.set(0, 1, 9));
        is("5 m is", 9, x.wallIs(0, 1));
        is("5 kind back", 6, x.set(0, 0, 0));
        is("5 kind above", BEYOND, x.set(0, 0, 7));
        is("5 m above", BEYOND, x.set(0, 1, 10));
        is("5 below", BEYOND, x.set(0, 1, -1));
        is("5 what below", BEYOND, x.set(0, -1, 0));
        is("5 what above", BEYOND, x.set(0, 2, 0));
        is("5 wall", BEYOND, x.set(1, 0, 0));
        is("5 nothing changed", 0, x.wallIs(0, 0) * 10 + x.wallIs(0, 1) - 9);
    }

    private static void promise6And7() {
        LetterWalls x = new LetterWalls();
        x.wall(0, 3);
        is("6 first", 0, x.brick(0, 2, 26));
        is("7 as put", 26, x.brickOf(0, 2));
        is("6 open again", 26, x.brick(0, 2, 0));
        is("7 open", 0, x.brickOf(0, 2));
        is("6 letter above", BEYOND, x.brick(0, 0, 27));
        is("6 letter below", BEYOND, x.brick(0, 0, -1));
        is("6 place above", BEYOND, x.brick(0, 3, 1));
        is("6 place below", BEYOND, x.brick(0, -1, 1));
        is("6 wall", BEYOND, x.brick(1, 0, 1));
        is("7 place above", BEYOND, x.brickOf(0, 3));
        is("7 place below", BEYOND, x.brickOf(0, -1));
        is("7 wall", BEYOND, x.brickOf(-1, 0));
    }

    private static void promise8() {
        LetterWalls x = new LetterWalls();
        int w = Due.wall(x, 1, 1, 0, 2, 3, 0, 4);
        int other = Due.wall(x, 17, 0, 8, 9);
        String[] due = {"1 2 3 4 ", "4 3 2 1 ", "1 3 ", "1 2 3 4 8 9 ", "23 24 25 26 ", "9 8 4 3 2 1 ", "1 2 3 4 "};
        for (int kind = 0; kind < 7; kind++) {
            x.set(w, 0, kind);
            rowIs("8 kind " + kind, due[kind], x, w);
        }
        x.set(w, 0, 3);
        x.set(w, 1, 0);
        rowIs("8 no corner with itself", "1 2 3 4 ", x, w);
        x.set(w, 1, 2);
        rowIs("8 no corner with none", "1 2 3 4 ", x, w);
        x.set(w, 1, 1);
        x.brick(w, 0, 0);
        x.set(w, 0, 2);
        rowIs("8 second of the letters", "2 4 ", x, w);
        x.set(w, 0, 6);
        Due.text(x, 0, "(l-2)*4+i*2+n+m");
        rowIs("8 told", "4 10 16 ", x, w);
        Due.text(x, 0, "l*9");
        rowIs("8 told, else 1", "18 1 1 ", x, w);
        Due.text(x, 0, "0-l");
        rowIs("8 told, below", "1 1 1 ", x, w);
        Due.text(x, 0, "26");
        rowIs("8 told, the last", "26 26 26 ", x, w);
        Due.text(x, 0, "0");
        rowIs("8 told, none", "1 1 1 ", x, w);
        is("8 i below", BEYOND, x.readAs(w, -1));
        is("8 i above", BEYOND, x.readAs(w, 3));
        is("8 wall", BEYOND, x.readAs(2, 0));
        rowIs("8 the other one", "9 8 ", x, other);
    }

    private static void promise9To11() {
        LetterWalls x = new LetterWalls();
        is("9 first", 0, x.word(4, 26));
        is("9 second", 1, x.word(0, 1));
        is("9 sort above", BEYOND, x.word(5, 1));
        is("9 sort below", BEYOND, x.word(-1, 1));
        is("9 letter above", BEYOND, x.word(0, 27));
        is("9 letter below", BEYOND, x.word(0, 0));
        for (int i = 2; i <= 6; i++) {
            is("10 more", i, x.letter(0, i));
        }
        is("10 full", FULL, x.letter(0, 7));
        is("10 beyond ahead of full", BEYOND, x.letter(0, 0));
        is("10 letter above", BEYOND, x.letter(1, 27));
        is("10 word above", BEYOND, x.letter(2, 1));
        is("10 word below", BEYOND, x.letter(-1, 1));
        is("11 sort", 4, x.wordIs(0, -1));
        is("11 letters", 6, x.wordIs(0, -2));
        is("11 first", 26, x.wordIs(0, 0));
        is("11 last", 6, x.wordIs(0, 5));
        is("11 above", BEYOND, x.wordIs(0, 6));
        is("11 above in 1", BEYOND, x.wordIs(1, 1));
        is("11 below", BEYOND, x.wordIs(0, -3));
        is("11 word", BEYOND, x.wordIs(2, -1));
        for (int i = 2; i < 12; i++) {
            is("9 next", i, x.word(0, 1));
        }
        is("9 full", FULL, x.word(0, 1));
        is("9 beyond ahead of full", BEYOND, x.word(5, 1));
    }

    private static void promise12() {
        LetterWalls x = new LetterWalls();
        is("12 all 8", 8, x.feed(0x3131313131313131L, 8));
        is("12 n below", BEYOND, x.feed(0, 0));
        is("12 n above", BEYOND, x.feed(0, 9));
        for (int i = 2; i <= 7; i++) {
            is("12 more", 8 * i, x.feed(0, 8));
        }
        is("12 full", FULL, x.feed(0, 5));
        is("12 to the end", 60, x.feed(0, 4));
        is("12 full at the end", FULL, x.feed(0, 1));
        is("12 beyond ahead of full", BEYOND, x.feed(0, 9));
        is("12 bytes", 60, x.count(3));
        is("12 the lowest first", -14, x.text(0));
        is("12 lowest", 3, x.feed(0x322B31L, 3));
        is("12 text", 1, x.text(1));
        is("12 worth", 3, x.price(1));
        is("12 only the lowest", 1, x.feed(0xFFFFFF37L, 1));
        is("12 text", 1, x.text(1));
        is("12 worth", 7, x.price(1));
    }

    private static void fault(int use, String bytes, int place) {
        LetterWalls x = new LetterWalls();
        is("13 " + bytes, place < 0 ? 1 : -10 - place, Due.text(x, use, bytes));
        is("13 tape after " + bytes, 0, x.count(3));
    }

    private static void promise13() {
        LetterWalls x = new LetterWalls();
        x.feed(49, 1);
        is("13 use below", BEYOND, x.text(-1));
        is("13 use above", BEYOND, x.text(2));
        is("13 tape stays", 1, x.count(3));
        is("13 text", 1, x.text(1));
        is("13 price", 1, x.price(1));
        is("13 fault", -10, x.text(1));
        is("13 the one ahead stays", 1, x.untell(1));
        fault(0, "", 0);
        fault(0, "l+", 2);
        fault(0, "+l", 0);
        fault(0, "ll", 1);
        fault(0, "l 1", 1);
        fault(0, "1234", -1);
        fault(0, "12345", 4);
        fault(0, "0000", -1);
        fault(0, "1l", 1);
        fault(0, "l1", 1);
        fault(0, "s", 0);
        fault(0, "h", 0);
        fault(1, "i", 0);
        fault(1, "n", 0);
        fault(1, "m", 0);
        fault(1, "l+s*h", -1);
        fault(0, "l+i*n%m/l-1", -1);
        fault(0, "1<2", -1);
        fault(0, "1<2<3", 3);
        fault(0, "1<2=3", 3);
        fault(0, "1<2&3>4|5=6", -1);
        fault(0, "(1<2)<3", -1);
        fault(0, "1=", 2);
        fault(0, "()", 1);
        fault(0, "(1", 2);
        fault(0, "(1))", 3);
        fault(0, "1)", 1);
        fault(0, "!", 1);
        fault(0, "1!", 1);
        fault(0, "!!!!!1", -1);
        fault(0, "!!!!!!1", 5);
        fault(0, "(((((1)))))", -1);
        fault(0, "((((((1))))))", 5);
        fault(0, "!(!(!1))+!(!(!1))", -1);
        fault(0, "!(!(!(1)))", 5);
        fault(0, "!1+!1+!1+!1+!1+!1+!1", -1);
        fault(0, "(1)+(1)+(1)+(1)+(1)+(1)", -1);
        fault(0, "-1", 0);
        fault(0, "1--1", 2);
        fault(0, "1||1", 2);
        fault(0, "1&&1", 2);
        fault(0, "1==1", 2);
        fault(0, "L", 0);
        fault(0, "l" + (char) 233, 1);
        fault(0, "!l!", 2);
    }

    private static void worth(String bytes, int due) {
        LetterWalls x = new LetterWalls();
        x.have(0, 3);
        x.heap(5, 7);
        is("13 text " + bytes, 1, Due.text(x, 1, bytes));
        is("13 worth " + bytes, due, x.price(5));
    }

    private static void promise13Worth() {
        worth("l", 5);
        worth("s", 3);
        worth("h", 7);
        worth("999", 999);
        worth("1000", 999);
        worth("0-1", 0);
        worth("2+3*4", 14);
        worth("(2+3)*4", 20);
        worth("10-4-3", 3);
        worth("100/7/2", 7);
        worth("7/2*2", 6);
        worth("17%10%4", 3);
        worth("1/0+9", 9);
        worth("1%0+9", 9);
        worth("100+(0-7)/2", 97);
        worth("100+(0-7)%4", 97);
        worth("1<2", 1);
        worth("2<2", 0);
        worth("2=2", 1);
        worth("2=3", 0);
        worth("3>2", 1);
        worth("2>2", 0);
        worth("1+1=2", 1);
        worth("7&9", 1);
        worth("7&0", 0);
        worth("0|0", 0);
        worth("0|8", 1);
        worth("1|0&0", 1);
        worth("1<2&0", 0);
        worth("!0", 1);
        worth("!7", 0);
        worth("!!7", 1);
        worth("!0*5", 5);
        worth("!(1=2)+1", 2);
        worth("9999*9999*9999<0", 1);
        worth("0-9999*9999*22<0", 0);
        worth("(0-2)*8192*8192*16/(0-1)<0", 1);
    }

    private static void promise14() {
        LetterWalls x = new LetterWalls();
        is("14 none", 0, x.untell(1));
        Due.text(x, 1, "77");
        is("14 told", 77, x.price(1));
        is("14 the other", 0, x.untell(0));
        is("14 was", 1, x.untell(1));
        is("14 as without", 1, x.price(1));
        is("14 none more", 0, x.untell(1));
        is("14 below", BEYOND, x.untell(-1));
        is("14 above", BEYOND, x.untell(2));
    }

    private static void promise15() {
        LetterWalls x = plain();
        int w = Due.wall(x, 0, 1, 2, 3, 4);
        is("15 how many", 4, x.says(w, -1));
        for (int i = 0; i < 4; i++) {
            is("15 word " + i, i, x.says(w, i));
        }
        is("15 none such", BEYOND, x.says(w, 4));
        is("15 below", BEYOND, x.says(w, -2));
        is("15 wall", BEYOND, x.says(1, 0));
        x.brick(w, 0, 9);
        is("15 reads not", NONE, x.says(w, -1));
        is("15 none ahead of beyond", NONE, x.says(w, 9));
        is("15 below ahead of none", BEYOND, x.says(w, -2));
        LetterWalls y = new LetterWalls();
        Due.word(y, 0, 1, 1);
        Due.word(y, 0, 1);
        Due.word(y, 1, 1);
        Due.word(y, 1, 1, 1);
        Due.word(y, 3, 1);
        Due.word(y, 3, 1);
        int v = Due.wall(y, 0, 1, 1, 1, 1);
        is("15 first by numbers", 24, y.says(v, 0) * 100 + y.says(v, 1) * 10 + y.says(v, 2));
        y.brick(v, 3, 0);
        is("15 the other", 124, y.says(v, 0) * 100 + y.says(v, 1) * 10 + y.says(v, 2));
    }

    private static void promise16() {
        LetterWalls x = plain();
        int w = Due.wall(x, 0, 1, 2, 3, 4, 0, 0);
        is("16 by 1", 0b110100, x.doors(w, 1));
        is("16 by 2", 0b010000, x.doors(w, 2));
        is("16 by 3", 0, x.doors(w, 3));
        is("16 by 7", 0, x.doors(w, 7));
        is("16 by 12", 0, x.doors(w, 12));
        is("16 w below", BEYOND, x.doors(w, 0));
        is("16 w above", BEYOND, x.doors(w, 13));
        is("16 wall", BEYOND, x.doors(1, 1));
        is("16 nothing changed", 3, x.brickOf(w, 2));
        int back = Due.wall(x, 10, 4, 9, 9, 2, 1);
        is("16 back", 0b00010, x.doors(back, 2));
        int corner = Due.wall(x, 30, 1, 2, 4, 5, 5);
        is("16 corner", 0b01000, x.doors(corner, 1) & 0b01000);
        LetterWalls y = new LetterWalls();
        y.wall(0, 24);
        is("16 no words", 0, y.doors(0, 12));
    }

    private static void promise17() {
        LetterWalls x = plain();
        int w = Due.wall(x, 0, 1, 2, 0, 3, 4);
        is("17 not", 0b01000, x.spare(w));
        x.brick(w, 2, 9);
        is("17 what spoils it", 0b00100, x.spare(w));
        x.brick(w, 3, 0);
        is("17 what spoils it, shorter", 0b00100, x.spare(w));
        is("17 wall", BEYOND, x.spare(1));
        is("17 below", BEYOND, x.spare(-1));
        is("17 nothing changed", 9, x.brickOf(w, 2));
        int second = Due.wall(x, 20, 1, 9, 2, 9, 4, 9);
        is("17 second", 0b100000, x.spare(second));
    }

    private static void promise18() {
        LetterWalls x = plain();
        x.word(3, 26);
        int w = Due.wall(x, 0, 1, 2, 4, 0);
        is("18 another does", 1 << 26, x.others(w, 2));
        is("18 none", 0, x.others(w, 0));
        is("18 open", 0, x.others(w, 3));
        x.brick(w, 2, 9);
        is("18 two", 1 << 26 | 1 << 4, x.others(w, 2));
        x.brick(w, 2, 3);
        is("18 into an open place", 1 << 26 | 1 << 4, x.others(w, 3));
        is("18 place above", BEYOND, x.others(w, 4));
        is("18 place below", BEYOND, x.others(w, -1));
        is("18 wall", BEYOND, x.others(1, 0));
        int second = Due.wall(x, 20, 1, 9, 2, 9, 4);
        is("18 left out", (1 << 27) - 2 - (1 << 9), x.others(second, 1));
    }

    private static void promise19() {
        LetterWalls x = plain();
        x.word(3, 6);
        x.word(1, 7);
        int w = Due.wall(x, 0, 1, 2, 4, 0);
        is("19 steps", 2, x.steps(w));
        x.brick(w, 0, 9);
        is("19 from a wall that reads not", 1, x.steps(w));
        x.brick(w, 1, 9);
        is("19 too far", 0, x.steps(w));
        int second = Due.wall(x, 20, 1, 9, 2, 9, 4);
        is("19 left out ones", 52, x.steps(second));
        is("19 wall", BEYOND, x.steps(2));
        is("19 empty", 0, x.steps(x.wall(0, 0)));
    }

    private static void promise20() {
        LetterWalls x = plain();
        int w = Due.wall(x, 0, 9, 2, 9, 9);
        is("20 mends", 3, x.mends(w));
        x.brick(w, 0, 0);
        is("20 shorter, so others", 3, x.mends(w));
        x.brick(w, 1, 0);
        is("20 no law so short", NONE, x.mends(w));
        is("20 empty", NONE, x.mends(x.wall(0, 0)));
        is("20 wall", BEYOND, x.mends(2));
        int w5 = Due.wall(x, 0, 1, 2, 4, 5, 1);
        is("20 no law of 5", NONE, x.mends(w5));
        int w7 = Due.wall(x, 10, 4, 2, 1, 1, 4, 2, 1);
        is("20 back", 1, x.mends(w7));
    }

    private static void promise21() {
        LetterWalls x = plain();
        Due.word(x, 0, 9, 8);
        int w = Due.wall(x, 0, 9, 9, 2, 4, 0);
        Due.sheet(x, 0, 16, 5, 1, 3);
        is("21 wish", 1, x.wish(w, 0));
        Due.sheet(x, 1, 8, 3, 3, 3, 3);
        is("21 no law", 3, x.wish(w, 1));
        Due.sheet(x, 1, 8, 3, 3, 3);
        is("21 too short", NONE, x.wish(w, 1));
        Due.sheet(x, 1, 8, 3, 3, 3, 3, 3);
        is("21 too long", NONE, x.wish(w, 1));
        Due.sheet(x, 1, 8, 3, 3, 3, 3, 3, 3, 6);
        is("21 no word ahead of as long", BEYOND, x.wish(w, 1));
        Due.sheet(x, 2, 32, -1, 3, 3, 3);
        is("21 below", BEYOND, x.wish(w, 2));
        is("21 missing", NONE, x.wish(w, 3));
        is("21 sheet", BEYOND, x.wish(w, 4));
        is("21 sheet below", BEYOND, x.wish(w, -1));
        is("21 wall", BEYOND, x.wish(1, 0));
        x.sheet(3, 8, 0);
        is("21 nothing wished", NONE, x.wish(w, 3));
        is("21 nothing for nothing", 0, x.wish(x.wall(0, 3), 3));
    }

    private static void promise22() {
        LetterWalls x = new LetterWalls();
        is("22 first", 0, x.heap(1, 99));
        is("22 stays", 99, x.heap(1, -1));
        is("22 none", 99, x.heap(1, 0));
        is("22 was none", 0, x.heap(1, -1));
        is("22 v below", BEYOND, x.heap(1, -2));
        is("22 v above", BEYOND, x.heap(1, 100));
        is("22 letter below", BEYOND, x.heap(0, 1));
        is("22 letter above", BEYOND, x.heap(27, 1));
    }

    private static void promise23() {
        LetterWalls x = new LetterWalls();
        x.have(0, 3);
        is("23 dear", 4, x.price(5));
        is("23 plain", 1, x.price(4));
        is("23 below", BEYOND, x.price(0));
        is("23 above", BEYOND, x.price(27));
        Due.text(x, 1, "l*10+h");
        x.heap(26, 9);
        is("23 text", 269, x.price(26));
        is("23 text of 5", 50, x.price(5));
    }

    private static void promise24() {
        LetterWalls x = new LetterWalls();
        is("24 season", 0, x.have(0, 3));
        is("24 season was", 3, x.have(0, 0));
        is("24 season above", BEYOND, x.have(0, 4));
        is("24 season below", BEYOND, x.have(0, -1));
        is("24 purse", 100, x.have(1, 99999));
        is("24 purse was", 99999, x.have(1, 0));
        is("24 purse above", BEYOND, x.have(1, 100000));
        is("24 purse below", BEYOND, x.have(1, -1));
        is("24 what above", BEYOND, x.have(2, 0));
        is("24 what below", BEYOND, x.have(-1, 0));
        is("24 purse is", 0, x.have(1, 0));
    }

    private static void promise25() {
        LetterWalls x = new LetterWalls();
        int w = Due.wall(x, 0, 0, 7, 0, 0);
        x.heap(3, 1);
        is("25 laid", 2, x.lay(w, 0, 3, 0));
        is("25 out of the heap", 0, x.heap(3, -1));
        is("25 is there", 3, x.brickOf(w, 0));
        is("25 no such brick", STATE, x.lay(w, 2, 3, 0));
        is("25 not open", STATE, x.lay(w, 0, 3, 1));
        is("25 bought", 3, x.lay(w, 2, 3, 1));
        is("25 heap stays", 0, x.heap(3, -1));
        is("25 paid", 99, x.have(1, 4));
        Due.text(x, 1, "5");
        is("25 too dear", STATE, x.lay(w, 3, 3, 1));
        is("25 not paid", 4, x.have(1, 5));
        is("25 just enough", 4, x.lay(w, 3, 3, 1));
        is("25 all paid", 0, x.have(1, 0));
        is("25 place", BEYOND, x.lay(w, 4, 3, 1));
        is("25 place below", BEYOND, x.lay(w, -1, 3, 1));
        is("25 wall", BEYOND, x.lay(1, 0, 3, 1));
        is("25 letter below", BEYOND, x.lay(w, 0, 0, 1));
        is("25 letter above", BEYOND, x.lay(w, 0, 27, 1));
        is("25 buys above", BEYOND, x.lay(w, 0, 3, 2));
        is("25 buys below", BEYOND, x.lay(w, 0, 3, -1));
        x.brick(w, 0, 0);
        Due.text(x, 1, "0");
        is("25 for nothing", 4, x.lay(w, 0, 3, 1));
    }

    private static void promise26() {
        LetterWalls x = new LetterWalls();
        int w = Due.wall(x, 0, 7, 0, 7, 8);
        x.heap(7, 98);
        is("26 falls", 3, x.falls(w));
        is("26 held", 99, x.heap(7, -1));
        is("26 eights", 1, x.heap(8, -1));
        is("26 open", 0, x.wallIs(w, 3));
        is("26 bricks stay", 4, x.wallIs(w, 2));
        is("26 again", 0, x.falls(w));
        is("26 wall", BEYOND, x.falls(1));
        is("26 below", BEYOND, x.falls(-1));
    }

    private static void promise27() {
        LetterWalls x = plain();
        is("27 empty heap", 0, x.builds(7, 0));
        is("27 no first", 0, x.builds(7, 1));
        for (int l = 1; l <= 5; l++) {
            x.heap(l, 2);
        }
        is("27 by 2", 0, x.builds(2, 0));
        is("27 by 3", 1, x.builds(3, 0));
        is("27 by 4", 2, x.builds(4, 0));
        is("27 by 6", 2, x.builds(6, 0));
        is("27 by 7", 3, x.builds(7, 0));
        is("27 first", 0x124, x.builds(7, 1));
        x.heap(1, 1);
        is("27 by 7, one who", 2, x.builds(7, 0));
        x.word(0, 6);
        x.heap(6, 1);
        is("27 by 7, two whos", 6, x.builds(7, 0));
        x.heap(1, 0);
        is("27 first by numbers", 0x624, x.builds(7, 1));
        is("27 k below", BEYOND, x.builds(0, 0));
        is("27 k above", BEYOND, x.builds(8, 0));
        is("27 what below", BEYOND, x.builds(1, -1));
        is("27 what above", BEYOND, x.builds(1, 2));
        is("27 by 1", 0, x.builds(1, 1));
        Due.word(x, 3, 26);
        x.heap(26, 1);
        x.heap(4, 0);
        is("27 the last letter", 0x627, x.builds(3, 1));
        LetterWalls y = new LetterWalls();
        Due.word(y, 2, 3);
        Due.word(y, 3, 4, 4);
        Due.word(y, 1, 2);
        Due.word(y, 0, 1);
        y.heap(1, 1);
        y.heap(2, 1);
        y.heap(4, 1);
        is("27 a letter twice", 0, y.builds(4, 0));
        y.heap(4, 2);
        y.heap(3, 1);
        is("27 the shorter first", 0x432, y.builds(4, 1));
    }

    private static void promise28() {
        LetterWalls x = plain();
        is("28 n below", BEYOND, x.years(0));
        is("28 n above", BEYOND, x.years(21));
        is("28 no walls", 0, x.years(20));
        is("28 purse", 1100, x.have(1, 99990));
        is("28 draws", 20, drawsBetween(1, x.count(6)));
        x.years(1);
        is("28 purse held", 99999, x.have(1, 0));
        LetterWalls y = plain();
        Due.wall(y, 0, 3, 3, 3);
        y.wall(0, 5);
        y.wall(0, 0);
        is("28 what reads not", 0, y.years(2));
        is("28 draws of walls with letters", 4, drawsBetween(1, y.count(6)));
        LetterWalls z = plain();
        int w = Due.wall(z, 0, 1, 2, 3, 4);
        is("28 one falls", 1, z.years(20));
        is("28 the not", 0, z.brickOf(w, 2));
        is("28 to the heap", 1, z.heap(3, -1));
        LetterWalls s = new LetterWalls();
        s.years(1);
        is("28 season", ((1103515245 + 12345) >>> 8) % 4, s.have(0, 0));
    }

    private static int drawsBetween(int from, int to) {
        int z = from;
        for (int i = 0; i < 1000; i++) {
            if (z == to) {
                return i;
            }
            z = z * 1103515245 + 12345;
        }
        return -1;
    }

    private static void promise29() {
        LetterWalls x = new LetterWalls();
        is("29 first", 1, x.seed(Integer.MIN_VALUE));
        is("29 any", Integer.MIN_VALUE, x.seed(BEYOND));
        is("29 like an error", BEYOND, x.seed(0));
        is("29 no error", 0, x.told(1));
    }

    private static void voice(int kind, int voice, int x, int due, int... bodies) {
        LetterWalls v = new LetterWalls();
        for (int i = 0; i < 3; i++) {
            v.wall(10 * kind + 5, 1);
        }
        is("30 voice " + voice + " of " + kind, due, v.voice(2, voice, x));
        is("31 how many", bodies.length, v.count(5));
        for (int i = 0; i < bodies.length; i++) {
            is("31 body " + i, bodies[i], v.body(i));
        }
        is("31 no more", NONE, v.body(bodies.length));
        is("31 below", NONE, v.body(-1));
    }

    private static void promise30() {
        voice(0, 0, 10, 12, 10);
        voice(0, 1, 10, 24, 11, 10);
        voice(0, 2, 10, 19, 12, 11, 10);
        voice(0, 3, 10, 3, 13);
        voice(1, 0, 10, 6, 20, 10);
        voice(1, 1, 10, 12, 11, 20, 10);
        voice(1, 2, 10, 7, 12, 11, 20, 10);
        voice(1, 3, -10, -3 - 6, 21, 13, 11, 20, 10);
        voice(2, 0, 10, 12, 10);
        voice(2, 1, 10, -24, 30, 11, 10);
        voice(2, 2, 10, -29, 12, 30, 11, 10);
        voice(3, 1, 10, 24, 11, 10);
        voice(3, 2, -9, -4 * 2 + 4 - 5, 40, 12, 11, 10);
        voice(4, 0, 10, 18, 50, 20, 10);
        voice(4, 1, 10, 36, 11, 50, 20, 10);
        voice(4, 2, 10, 31 ^ 2, 51, 12, 11, 50, 20, 10);
        voice(4, 3, 10, 3 + 2 * 3 * -3, 21, 13, 11, 50, 20, 10);
        voice(5, 1, 10, 26, 60, 11, 10);
        voice(5, 2, 10, 16 - 5, 40, 12, 60, 11, 10);
        voice(6, 0, 10, 8, 70);
        voice(6, 1, 10, 21, 71, 11, 70);
        voice(6, 2, 10, 16, 12, 71, 11, 70);
        voice(0, 0, Integer.MAX_VALUE, Integer.MIN_VALUE + 1, 10);
        LetterWalls x = new LetterWalls();
        x.wall(0, 1);
        x.wall(0, 1);
        is("30 least by -1", Integer.MIN_VALUE, x.voice(1, 3, Integer.MIN_VALUE));
        is("30 parted", PARTED, x.voice(0, 3, 4));
        is("30 told", 1, x.told(6));
        x.set(0, 0, 1);
        is("30 parted below", PARTED, x.voice(0, 3, 4));
        is("30 not an error", PARTED, x.voice(0, 0, PARTED + 6));
        is("30 told two", 2, x.told(6));
        is("30 voice below", BEYOND, x.voice(0, -1, 0));
        is("30 voice above", BEYOND, x.voice(0, 4, 0));
        is("30 wall", BEYOND, x.voice(2, 0, 0));
        is("30 wall below", BEYOND, x.voice(-1, 0, 0));
    }

    private static void promise31() {
        LetterWalls x = new LetterWalls();
        x.wall(0, 1);
        x.wall(15, 1);
        x.voice(1, 0, 3);
        is("31 trace", 2, x.count(5));
        x.voice(9, 0, 3);
        is("31 beyond changes nothing", 20, x.body(0));
        x.voice(0, 3, 3);
        is("31 the latest, though it parted", 13, x.body(0));
        is("31 only that", NONE, x.body(1));
    }

    private static void promise32And33() {
        LetterWalls x = new LetterWalls();
        is("32 8 bits", 1, x.sheet(0, 8, 24));
        is("32 16 bits", 1, x.sheet(3, 16, 0));
        is("32 above", BEYOND, x.sheet(4, 8, 1));
        is("32 below", BEYOND, x.sheet(-1, 8, 1));
        is("32 bits", BEYOND, x.sheet(0, 9, 1));
        is("32 bits ahead of state", BEYOND, x.sheet(0, -8, -1));
        is("32 n below", STATE, x.sheet(0, 8, -1));
        is("32 n above", BEYOND, x.sheet(0, 8, 25));
        is("33 last", 1, x.put(0, 23, 7));
        is("33 above", BEYOND, x.put(0, 24, 7));
        is("33 below", BEYOND, x.put(0, -1, 7));
        is("33 empty", BEYOND, x.put(3, 0, 7));
        is("33 missing", NONE, x.put(1, -1, 7));
        is("33 sheet", BEYOND, x.put(4, 0, 7));
        is("32 missing, whatever n", 1, x.sheet(0, 0, -5));
        is("33 missing now", NONE, x.put(0, 0, 7));
        x.wall(0, 4);
        int[] kept = {7, 256 + 7, 65536 + 7, -249};
        int[][] due = {{8, 4}, {16, 1}, {32, 1}};
        for (int[] one : due) {
            Due.sheet(x, 0, one[0], kept);
            is("33 lowest bits of " + one[0], one[1], x.bricks(0, 0));
        }
        Due.sheet(x, 0, 16, 65536 + 7, 65536 * 3 + 8);
        is("33 lowest 16 bits", 2, x.bricks(0, 0));
        is("33 as put", 8, x.brickOf(0, 1));
        x.sheet(0, 8, 4);
        is("32 all 0", 4, x.bricks(0, 0));
        is("32 open", 0, x.wallIs(0, 3));
    }

    private static void promise34() {
        LetterWalls x = new LetterWalls();
        x.wall(0, 5);
        Due.sheet(x, 0, 8, 1, 2, 3, 4, 5);
        Due.sheet(x, 1, 8, 6, 7);
        Due.sheet(x, 2, 16, 6, 7);
        is("34 same, onward", 4, x.move(0, 0, 0, 1, 4));
        x.bricks(0, 0);
        rowIs("34 as they all were", "1 1 2 3 4 ", x, 0);
        is("34 same, back", 3, x.move(0, 2, 0, 0, 3));
        x.bricks(0, 0);
        rowIs("34 as they all were", "2 3 4 3 4 ", x, 0);
        is("34 another", 2, x.move(1, 0, 0, 3, 2));
        x.bricks(0, 0);
        rowIs("34 another", "2 3 4 6 7 ", x, 0);
        is("34 nothing at the end", 0, x.move(1, 2, 0, 5, 0));
        is("34 nothing behind the end", BEYOND, x.move(1, 3, 0, 0, 0));
        is("34 n below", BEYOND, x.move(0, 0, 1, 0, -1));
        is("34 i below", BEYOND, x.move(0, -1, 1, 0, 1));
        is("34 j below", BEYOND, x.move(0, 0, 1, -1, 1));
        is("34 too many there", BEYOND, x.move(1, 1, 0, 0, 2));
        is("34 too many here", BEYOND, x.move(0, 0, 1, 1, 2));
        is("34 wraps not", BEYOND, x.move(0, Integer.MAX_VALUE, 1, 1, Integer.MAX_VALUE));
        is("34 unlike bits", KIND, x.move(0, -1, 2, 0, 1));
        is("34 one missing", NONE, x.move(0, 0, 3, 0, 1));
        is("34 one missing", NONE, x.move(3, 0, 0, 0, 1));
        is("34 sheet ahead of missing", BEYOND, x.move(3, 0, 4, 0, 1));
        is("34 sheet", BEYOND, x.move(-1, 0, 0, 0, 1));
    }

    private static void promise35() {
        LetterWalls x = new LetterWalls();
        int w = Due.wall(x, 0, 9, 9, 9, 9);
        Due.sheet(x, 0, 32, 1, 0, 26, 27, 5);
        is("35 up to none", 3, x.bricks(0, w));
        rowIs("35 came", "1 26 9 ", x, w);
        Due.sheet(x, 0, 32, -1);
        is("35 none at once", 0, x.bricks(0, w));
        Due.sheet(x, 0, 32, 4, 4, 4, 4, 4);
        is("35 the wall's end", 4, x.bricks(0, w));
        Due.sheet(x, 0, 32, 3);
        is("35 the sheet's end", 1, x.bricks(0, w));
        is("35 missing", NONE, x.bricks(1, w));
        is("35 wall ahead of missing", BEYOND, x.bricks(1, 1));
        is("35 sheet", BEYOND, x.bricks(4, w));
    }

    private static void promise36And37() {
        LetterWalls x = plain();
        int w = Due.wall(x, 23, 1, 2);
        x.heap(9, 4);
        x.have(0, 2);
        x.have(1, 555);
        x.seed(77);
        Due.text(x, 1, "13");
        x.feed(49, 2);
        x.tell(6);
        Due.sheet(x, 0, 8, 3, 3);
        is("36 first", 1, x.image());
        x.wall(0, 3);
        x.brick(w, 0, 8);
        x.set(w, 0, 1);
        x.word(0, 1);
        x.letter(0, 9);
        x.heap(9, 0);
        x.have(0, 0);
        x.have(1, 0);
        x.seed(0);
        x.untell(1);
        x.text(0);
        Due.text(x, 0, "5");
        x.check(0);
        x.voice(w, 0, 1);
        x.sheet(0, 8, 1);
        int told = x.told(2) + x.told(1);
        is("37 walls", 1, x.restore());
        is("37 brick", 1, x.brickOf(w, 0));
        is("37 kind", 2, x.wallIs(w, 0));
        is("37 words", 5, x.count(1));
        is("37 letters", 1, x.wordIs(0, -2));
        is("37 heap", 4, x.heap(9, -1));
        is("37 purse", 555, x.have(1, 1));
        is("37 season", 2, x.have(0, 1));
        is("37 z", 77, x.count(6));
        is("37 price", 13, x.price(1));
        is("37 turns", 0, x.untell(0));
        is("37 tape", 2, x.count(3));
        is("37 waits", 1, x.count(4));
        is("37 trace stays", 2, x.count(5));
        is("37 sheet stays", BEYOND, x.put(0, 1, 0));
        is("37 told stays", told + 1, x.told(2) + x.told(1));
        is("37 again", 1, x.restore());
        is("37 the image stays", 555, x.have(1, 1));
        is("36 second", 2, x.image());
        x.restore();
        is("36 in place of the one ahead", 1, x.have(1, 1));
        x.restore();
        is("36 count stays", 3, x.image());
        is("37 none", NONE, new LetterWalls().restore());
    }

    private static void promise38() {
        LetterWalls x = new LetterWalls();
        for (int i = 1; i <= 24; i++) {
            is("38 waits", i, x.tell(Integer.MIN_VALUE + i));
        }
        is("38 full", FULL, x.tell(0));
        is("38 still", 24, x.count(4));
    }

    private static int told(LetterWalls x, int wall, int... numbers) {
        for (int number : numbers) {
            x.tell(number);
        }
        return x.check(wall);
    }

    private static void promise39() {
        LetterWalls x = plain();
        int w = Due.wall(x, 0, 1, 2, 3, 4);
        is("39 all", 0, told(x, w, 0, 1, 2, 3));
        is("39 none wait", 0, x.count(4));
        is("39 one lacks", 4, told(x, w, 0, 1, 2));
        is("39 all lack", 1, told(x, w));
        is("39 too many", 5, told(x, w, 0, 1, 2, 3, 3));
        is("39 another", 2, told(x, w, 0, 2, 2, 3));
        is("39 beyond", BEYOND, told(x, 1, 0));
        is("39 none wait then", 0, x.count(4));
        x.brick(w, 0, 9);
        is("39 reads not", NONE, told(x, w, 0));
        is("39 none wait then", 0, x.count(4));
    }

    private static void promise40() {
        LetterWalls x = plain();
        x.wall(0, 1);
        x.heap(1, 4);
        x.heap(26, 9);
        x.feed(0, 3);
        x.tell(1);
        x.tell(1);
        x.voice(0, 2, 0);
        x.seed(-5);
        int[] due = {1, 5, 13, 3, 2, 3, -5};
        for (int what = 0; what < due.length; what++) {
            is("40 count " + what, due[what], x.count(what));
        }
        is("40 below", BEYOND, x.count(-1));
        is("40 above", BEYOND, x.count(7));
    }

    private static void promise41() {
        LetterWalls x = new LetterWalls();
        x.count(9);
        x.body(0);
        x.body(0);
        x.wall(0, 1);
        x.sheet(0, 8, -1);
        x.as(0, 1);
        x.voice(0, 3, 1);
        for (int i = 0; i < 12; i++) {
            x.word(0, 1);
        }
        x.word(0, 1);
        int[] due = {1, 2, 1, 1, 1, 1};
        for (int k = 1; k <= 6; k++) {
            is("41 told " + k, due[k - 1], x.told(k));
        }
        is("41 below", BEYOND, x.told(0));
        is("41 above", BEYOND, x.told(7));
        is("41 counted, too", 3, x.told(1));
        x.text(0);
        is("41 a fault is no error", 3, x.told(1));
    }
}
