/** Objects in the middle of things, for tests of what a call changes. */
final class Worlds {
    private Worlds() {
    }

    /** Something of all that an object holds. WALL 1 doesn't READ, and it parts, as its m is its number. */
    static LetterWalls village() {
        LetterWalls x = new LetterWalls();
        x.word(0, 1);
        x.word(1, 2);
        x.word(3, 4);
        Due.wall(x, 2, 1, 2, 4, 0, 0);
        x.heap(3, 9);
        x.have(1, 77);
        Due.text(x, 1, "8");
        Due.feed(x, "7");
        x.tell(9);
        x.seed(4);
        x.image();
        x.word(2, 3);
        x.word(4, 5);
        Due.word(x, 0, 1, 1, 1, 1, 1, 1);
        x.brick(0, 2, 3);
        x.brick(0, 3, 4);
        x.set(0, 1, 1);
        Due.wall(x, 11, 4, 9, 1);
        Due.wall(x, 65, 1, 2);
        x.wall(0, 24);
        x.text(0);
        x.check(0);
        Due.text(x, 0, "l*3+i");
        Due.text(x, 1, "l+h*s");
        for (int said : new int[] {0, 1, 3}) {
            x.tell(said);
        }
        Due.sheet(x, 0, 8, 0, 1, 3, 2);
        Due.sheet(x, 1, 16, 5, 6, 27);
        Due.sheet(x, 2, 8, 8, 9, 10, 11);
        x.heap(3, 2);
        x.heap(7, 5);
        x.have(0, 2);
        x.have(1, 7);
        x.seed(12345);
        x.voice(1, 0, 4);
        return x;
    }

    static LetterWalls villageWithTape() {
        LetterWalls x = village();
        Due.feed(x, "l-1");
        return x;
    }

    /** 56 bytes of THE TAPE, which are a TEXT with one digit more. */
    static LetterWalls villageWithLongTape() {
        LetterWalls x = village();
        for (int i = 0; i < 7; i++) {
            x.feed(0x2B312B312B312B31L, 8);
        }
        return x;
    }

    /** No room for anything more; WALL 0 SAYS 24 WORDS, and they wait. */
    static LetterWalls fullTown() {
        LetterWalls x = Due.plain();
        for (int i = 5; i < 11; i++) {
            x.word(0, i);
        }
        Due.word(x, 4, 1, 2, 3, 4, 5, 6);
        for (int i = 0; i < 6; i++) {
            x.wall(10 * i + 9 - i, 24);
        }
        int[] law = {1, 2, 4, 5, 1, 2, 4, 5, 1, 2, 4, 5, 1, 2, 4, 5, 1, 2, 4, 5, 1, 2, 3, 4};
        Due.sheet(x, 3, 8, law);
        x.bricks(3, 0);
        x.bricks(3, 4);
        x.image();
        for (int letter : law) {
            x.tell(letter - 1);
        }
        for (int i = 0; i < 7; i++) {
            x.feed(0x2B312B312B312B31L, 8);
        }
        x.feed(0x312B3939L, 4);
        x.heap(26, 99);
        x.heap(1, 98);
        x.have(0, 3);
        x.have(1, 99999);
        x.seed(-1);
        return x;
    }
}
