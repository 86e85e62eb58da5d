import java.util.Arrays;

/**
 * Walls of bricks with a letter each that must still read as laws. The words in capitals and the
 * promises are those of ../shared/DOC.md.
 */
public final class LetterWalls {
    private static final int LOW = -1000000;
    private static final int BEYOND = 1;
    private static final int NONE = 2;
    private static final int STATE = 3;
    private static final int FULL = 4;
    private static final int NOT_THE_KIND = 5;
    private static final int PARTED = 6;
    private static final int ERRORS = 6;

    private static final int OPEN = 0;
    private static final int LETTERS = 26;
    private static final int WALLS_MOST = 6;
    private static final int BRICKS_MOST = 24;
    private static final int ROW_MOST = 2 * BRICKS_MOST;
    private static final int M_MOST = 9;
    private static final int DOOR_MOST = 12;

    private static final int KINDS = 7;
    private static final int WALL = 0;
    private static final int BACK = 1;
    private static final int SECOND = 2;
    private static final int CORNER = 3;
    private static final int TURNED = 4;
    private static final int FACED = 5;
    private static final int TOLD = 6;
    // By KIND: the KIND that it is under; -1 where there is none above.
    private static final int[] ABOVE = {-1, WALL, WALL, WALL, BACK, CORNER, WALL};

    private static final int WORDS_MOST = 12;
    private static final int WORD_LETTERS = 6;
    private static final int SORTS = 5;
    private static final int WAYS_MOST = 999999;
    // How far a LAW has come: 0 a WHO is due, 1 a MAY, 2 a NOT or a DOES, 3 a DOES, 4 it may end here.
    private static final int BEGUN = 0;
    private static final int ENDED = 4;
    private static final int STATES = 5;
    // By SORT: the states (bits) in which such a WORD may come, and the state after it.
    private static final int[] COMES_IN = {1, 2, 4, 12, 16};
    private static final int[] LEADS_TO = {1, 2, 3, ENDED, BEGUN};
    private static final int FAR = 1000000;

    private static final int USES = 2;
    private static final int TURNS = 0;
    private static final String TURNS_NAMES = "linm";
    private static final String PRICE_NAMES = "lsh";
    private static final int NAMES_MOST = 4;
    private static final int TAPE_MOST = 60;
    private static final int DIGITS_MOST = 4;
    private static final int OPEN_SIGNS_MOST = 5;
    private static final int LEVELS = 5;
    private static final int COMPARISONS = 2;
    private static final int PRICE_MOST = 999;
    private static final int DEAR_LETTER = 5;

    private static final int HEAP_MOST = 99;
    private static final int SEASONS = 4;
    private static final int PURSE_MOST = 99999;
    private static final int PURSE_AT_FIRST = 100;
    private static final int PURSE_A_YEAR = 50;
    private static final int YEARS_MOST = 20;
    private static final int BUILD_WORDS_MOST = 7;
    private static final int BUILD_BASE = 16;

    private static final int VOICES = 4;
    private static final int READS = 0;
    private static final int SAYS = 1;
    private static final int FALLS = 2;
    private static final int MENDS = 3;
    private static final int TRACE_MOST = 30;
    private static final int VOICE_DEPTH = 30;
    // By VOICE and KIND: the number of the BODY; 0 where the KIND has none of its own.
    private static final int[] BODIES = {
        10, 20, 0, 0, 50, 0, 70,
        11, 0, 30, 0, 0, 60, 71,
        12, 0, 0, 40, 51, 0, 0,
        13, 21, 0, 0, 0, 0, 0,
    };

    private static final int SHEETS = 4;
    private static final int SHEET_MOST = 24;
    private static final int WAITING_MOST = 24;

    private final Town now;
    private final Town kept;
    private final Sheet[] sheets;
    private final Laws laws;
    private final Row row;
    private final Wall trial;
    private final Parser parser;
    private final Builder builder;
    private final Speaker speaker;
    private final int[] errorsTold;
    private int images;

    public LetterWalls() {
        now = new Town();
        kept = new Town();
        sheets = new Sheet[SHEETS];
        for (int i = 0; i < SHEETS; i++) {
            sheets[i] = new Sheet();
        }
        laws = new Laws();
        row = new Row();
        trial = new Wall();
        parser = new Parser();
        builder = new Builder();
        speaker = new Speaker();
        errorsTold = new int[ERRORS + 1];
    }

    // ---- walls, words

    public int wall(int km, int n) {
        if (km < 0 || km >= KINDS * 10 || n < 0 || n > BRICKS_MOST) {
            return error(BEYOND);
        }
        if (now.wallCount >= WALLS_MOST) {
            return error(FULL);
        }
        now.walls[now.wallCount].begin(km / 10, km % 10, n);
        now.wallCount++;
        return now.wallCount - 1;
    }

    public int wallIs(int wall, int what) {
        if (!now.hasWall(wall) || what < 0 || what > 7) {
            return error(BEYOND);
        }
        Wall built = now.walls[wall];
        now.spell(built, wall, row);
        switch (what) {
            case 0: return built.kind;
            case 1: return built.m;
            case 2: return built.size;
            case 3: return row.size;
            case 4: return laws.hold(now.tongue, row) ? 1 : 0;
            case 5: return laws.countWays(now.tongue, row);
            case 6: return laws.stuckAt(now.tongue, row);
            default: return now.costOf(built);
        }
    }

    public int as(int wall, int kind) {
        if (!now.hasWall(wall) || kind < 0 || kind >= KINDS) {
            return error(BEYOND);
        }
        Wall built = now.walls[wall];
        return isUnder(built.kind, kind) ? built.size : error(NOT_THE_KIND);
    }

    public int set(int wall, int what, int v) {
        if (!now.hasWall(wall) || what < 0 || what > 1 || v < 0) {
            return error(BEYOND);
        }
        if (v > (what == 0 ? KINDS - 1 : M_MOST)) {
            return error(BEYOND);
        }
        Wall built = now.walls[wall];
        int was = what == 0 ? built.kind : built.m;
        if (what == 0) {
            built.kind = v;
        } else {
            built.m = v;
        }
        return was;
    }

    public int brick(int wall, int place, int letter) {
        if (!now.hasPlace(wall, place) || letter < OPEN || letter > LETTERS) {
            return error(BEYOND);
        }
        int was = now.walls[wall].stones[place];
        now.walls[wall].stones[place] = letter;
        return was;
    }

    public int brickOf(int wall, int place) {
        return now.hasPlace(wall, place) ? now.walls[wall].stones[place] : error(BEYOND);
    }

    public int readAs(int wall, int i) {
        if (!now.hasWall(wall)) {
            return error(BEYOND);
        }
        now.spell(now.walls[wall], wall, row);
        return i >= 0 && i < row.size ? row.letters[i] : error(BEYOND);
    }

    public int word(int sort, int letter) {
        if (sort < 0 || sort >= SORTS || !isLetter(letter)) {
            return error(BEYOND);
        }
        if (now.tongue.size >= WORDS_MOST) {
            return error(FULL);
        }
        now.tongue.words[now.tongue.size].begin(sort, letter);
        now.tongue.size++;
        return now.tongue.size - 1;
    }

    public int letter(int word, int letter) {
        if (!now.tongue.has(word) || !isLetter(letter)) {
            return error(BEYOND);
        }
        Word told = now.tongue.words[word];
        if (told.size >= WORD_LETTERS) {
            return error(FULL);
        }
        told.letters[told.size] = letter;
        told.size++;
        return told.size;
    }

    public int wordIs(int word, int i) {
        if (!now.tongue.has(word)) {
            return error(BEYOND);
        }
        Word told = now.tongue.words[word];
        if (i == -1) {
            return told.sort;
        }
        if (i == -2) {
            return told.size;
        }
        return i >= 0 && i < told.size ? told.letters[i] : error(BEYOND);
    }

    // ---- texts

    public int feed(long word, int n) {
        if (n < 1 || n > 8) {
            return error(BEYOND);
        }
        if (now.taped + n > TAPE_MOST) {
            return error(FULL);
        }
        for (int i = 0; i < n; i++) {
            now.tape[now.taped + i] = (int) (word >>> (8 * i)) & 255;
        }
        now.taped += n;
        return now.taped;
    }

    public int text(int use) {
        if (use < 0 || use >= USES) {
            return error(BEYOND);
        }
        int fault = parser.faultOf(now.tape, now.taped, use == TURNS ? TURNS_NAMES : PRICE_NAMES);
        now.taped = 0;
        if (fault >= 0) {
            return -10 - fault;
        }
        parser.handTo(now.textOf(use));
        return 1;
    }

    public int untell(int use) {
        if (use < 0 || use >= USES) {
            return error(BEYOND);
        }
        Text told = now.textOf(use);
        int was = told.isTold() ? 1 : 0;
        told.size = 0;
        return was;
    }

    // ---- what walls say

    public int says(int wall, int i) {
        if (!now.hasWall(wall) || i < -1) {
            return error(BEYOND);
        }
        now.spell(now.walls[wall], wall, row);
        if (!laws.find(now.tongue, row)) {
            return error(NONE);
        }
        if (i == -1) {
            return laws.saidSize;
        }
        return i < laws.saidSize ? laws.said[i] : error(BEYOND);
    }

    public int doors(int wall, int w) {
        if (!now.hasWall(wall) || w < 1 || w > DOOR_MOST) {
            return error(BEYOND);
        }
        Wall built = now.walls[wall];
        int found = 0;
        for (int i = 0; i + w <= built.size; i++) {
            trial.copyFrom(built);
            trial.openFrom(i, w);
            now.spell(trial, wall, row);
            if (laws.hold(now.tongue, row)) {
                found |= 1 << i;
            }
        }
        return found;
    }

    public int spare(int wall) {
        if (!now.hasWall(wall)) {
            return error(BEYOND);
        }
        Wall built = now.walls[wall];
        int found = 0;
        for (int i = 0; i < built.size; i++) {
            if (built.stones[i] != OPEN && readsWith(wall, i, OPEN)) {
                found |= 1 << i;
            }
        }
        return found;
    }

    public int others(int wall, int place) {
        return now.hasPlace(wall, place) ? othersAt(wall, place) : error(BEYOND);
    }

    public int steps(int wall) {
        if (!now.hasWall(wall)) {
            return error(BEYOND);
        }
        Wall built = now.walls[wall];
        int found = 0;
        for (int i = 0; i < built.size; i++) {
            if (built.stones[i] != OPEN) {
                found += Integer.bitCount(othersAt(wall, i));
            }
        }
        return found;
    }

    public int mends(int wall) {
        if (!now.hasWall(wall)) {
            return error(BEYOND);
        }
        now.spell(now.walls[wall], wall, row);
        int fewest = laws.fewestUnlike(now.tongue, row);
        return fewest < FAR ? fewest : error(NONE);
    }

    public int wish(int wall, int sheet) {
        if (!now.hasWall(wall) || !isSheet(sheet)) {
            return error(BEYOND);
        }
        Sheet wished = sheets[sheet];
        if (wished.isMissing()) {
            return error(NONE);
        }
        for (int i = 0; i < wished.size; i++) {
            if (!now.tongue.has(wished.numbers[i])) {
                return error(BEYOND);
            }
        }
        now.spell(now.walls[wall], wall, row);
        int unlike = unlikeWish(wished);
        return unlike < FAR ? unlike : error(NONE);
    }

    // ---- the heap

    public int heap(int letter, int v) {
        if (!isLetter(letter) || v < -1 || v > HEAP_MOST) {
            return error(BEYOND);
        }
        int was = now.heaped[letter];
        if (v >= 0) {
            now.heaped[letter] = v;
        }
        return was;
    }

    public int price(int letter) {
        return isLetter(letter) ? now.priceOf(letter) : error(BEYOND);
    }

    public int have(int what, int v) {
        if (what < 0 || what > 1 || v < 0 || v > (what == 0 ? SEASONS - 1 : PURSE_MOST)) {
            return error(BEYOND);
        }
        int was = what == 0 ? now.season : now.purse;
        if (what == 0) {
            now.season = v;
        } else {
            now.purse = v;
        }
        return was;
    }

    public int lay(int wall, int place, int letter, int buys) {
        if (!now.hasPlace(wall, place) || !isLetter(letter) || buys < 0 || buys > 1) {
            return error(BEYOND);
        }
        Wall built = now.walls[wall];
        if (built.stones[place] != OPEN) {
            return error(STATE);
        }
        int asked = buys == 1 ? now.priceOf(letter) : 1;
        if (asked > (buys == 1 ? now.purse : now.heaped[letter])) {
            return error(STATE);
        }
        if (buys == 1) {
            now.purse -= asked;
        } else {
            now.heaped[letter] -= asked;
        }
        built.stones[place] = letter;
        return built.countLetters();
    }

    public int falls(int wall) {
        if (!now.hasWall(wall)) {
            return error(BEYOND);
        }
        Wall built = now.walls[wall];
        int had = built.countLetters();
        for (int i = 0; i < built.size; i++) {
            now.dropBrick(built, i);
        }
        return had;
    }

    public int builds(int k, int what) {
        if (k < 1 || k > BUILD_WORDS_MOST || what < 0 || what > 1) {
            return error(BEYOND);
        }
        builder.search(now.tongue, now.heaped, k);
        return what == 0 ? builder.found : builder.first;
    }

    public int years(int n) {
        if (n < 1 || n > YEARS_MOST) {
            return error(BEYOND);
        }
        int fallen = 0;
        for (int i = 0; i < n; i++) {
            fallen += passYear();
        }
        return fallen;
    }

    public int seed(int v) {
        int was = now.z;
        now.z = v;
        return was;
    }

    // ---- voices, sheets, images, what is told

    public int voice(int wall, int voice, int x) {
        if (!now.hasWall(wall) || voice < 0 || voice >= VOICES) {
            return error(BEYOND);
        }
        int answer = speaker.answer(now.walls[wall], wall, voice, x);
        return speaker.parted ? error(PARTED) : answer;
    }

    public int body(int i) {
        return i >= 0 && i < speaker.traced ? speaker.trace[i] : error(NONE);
    }

    public int sheet(int sheet, int bits, int n) {
        if (!isSheet(sheet) || (bits != 0 && bits != 8 && bits != 16 && bits != 32)) {
            return error(BEYOND);
        }
        if (bits == 0) {
            sheets[sheet].begin(0, 0);
            return 1;
        }
        if (n < 0) {
            return error(STATE);
        }
        if (n > SHEET_MOST) {
            return error(BEYOND);
        }
        sheets[sheet].begin(bits, n);
        return 1;
    }

    public int put(int sheet, int i, int v) {
        if (!isSheet(sheet)) {
            return error(BEYOND);
        }
        Sheet written = sheets[sheet];
        if (written.isMissing()) {
            return error(NONE);
        }
        if (i < 0 || i >= written.size) {
            return error(BEYOND);
        }
        written.write(i, v);
        return 1;
    }

    public int move(int sheet, int i, int other, int j, int n) {
        if (!isSheet(sheet) || !isSheet(other)) {
            return error(BEYOND);
        }
        Sheet from = sheets[sheet];
        Sheet to = sheets[other];
        if (from.isMissing() || to.isMissing()) {
            return error(NONE);
        }
        if (from.bits != to.bits) {
            return error(NOT_THE_KIND);
        }
        if (!from.holds(i, n) || !to.holds(j, n)) {
            return error(BEYOND);
        }
        System.arraycopy(from.numbers, i, to.numbers, j, n);
        return n;
    }

    public int bricks(int sheet, int wall) {
        if (!isSheet(sheet) || !now.hasWall(wall)) {
            return error(BEYOND);
        }
        Sheet from = sheets[sheet];
        if (from.isMissing()) {
            return error(NONE);
        }
        Wall built = now.walls[wall];
        int most = Math.min(from.size, built.size);
        for (int i = 0; i < most; i++) {
            int stone = from.numbers[i];
            if (stone != OPEN && !isLetter(stone)) {
                return i;
            }
            built.stones[i] = stone;
        }
        return most;
    }

    public int image() {
        kept.copyFrom(now);
        images++;
        return images;
    }

    public int restore() {
        if (images == 0) {
            return error(NONE);
        }
        now.copyFrom(kept);
        return now.wallCount;
    }

    public int tell(int v) {
        if (now.waits >= WAITING_MOST) {
            return error(FULL);
        }
        now.waiting[now.waits] = v;
        now.waits++;
        return now.waits;
    }

    public int check(int wall) {
        int told = now.waits;
        now.waits = 0;
        if (!now.hasWall(wall)) {
            return error(BEYOND);
        }
        now.spell(now.walls[wall], wall, row);
        if (!laws.find(now.tongue, row)) {
            return error(NONE);
        }
        return laws.firstNotSaid(now.waiting, told) + 1;
    }

    public int count(int what) {
        switch (what) {
            case 0: return now.wallCount;
            case 1: return now.tongue.size;
            case 2: return now.countHeap();
            case 3: return now.taped;
            case 4: return now.waits;
            case 5: return speaker.traced;
            case 6: return now.z;
            default: return error(BEYOND);
        }
    }

    public int told(int k) {
        return k >= 1 && k <= ERRORS ? errorsTold[k] : error(BEYOND);
    }

    // ---- what the calls share

    private int error(int k) {
        errorsTold[k]++;
        return LOW - k;
    }

    private static boolean isLetter(int letter) {
        return letter >= 1 && letter <= LETTERS;
    }

    private static boolean isSheet(int sheet) {
        return sheet >= 0 && sheet < SHEETS;
    }

    private static boolean isUnder(int kind, int sought) {
        int at = kind;
        for (int i = 0; i < KINDS && at >= 0; i++) {
            if (at == sought) {
                return true;
            }
            at = ABOVE[at];
        }
        return false;
    }

    private boolean readsWith(int wall, int place, int stone) {
        trial.copyFrom(now.walls[wall]);
        trial.stones[place] = stone;
        now.spell(trial, wall, row);
        return laws.hold(now.tongue, row);
    }

    private int othersAt(int wall, int place) {
        int stands = now.walls[wall].stones[place];
        int found = 0;
        for (int l = 1; l <= LETTERS; l++) {
            if (l != stands && readsWith(wall, place, l)) {
                found |= 1 << l;
            }
        }
        return found;
    }

    private int unlikeWish(Sheet wished) {
        int at = 0;
        int unlike = 0;
        for (int i = 0; i < wished.size; i++) {
            int number = wished.numbers[i];
            if (!now.tongue.has(number)) {
                return FAR;
            }
            Word told = now.tongue.words[number];
            if (told.size > row.size - at) {
                return FAR;
            }
            unlike += told.unlikeAt(row, at);
            at += told.size;
        }
        return at == row.size ? unlike : FAR;
    }

    private int passYear() {
        now.season = now.draw() % SEASONS;
        now.purse = Math.min(PURSE_MOST, now.purse + PURSE_A_YEAR);
        int fallen = 0;
        for (int w = 0; w < now.wallCount; w++) {
            Wall built = now.walls[w];
            if (built.size == 0 || built.countLetters() == 0) {
                continue;
            }
            int place = now.draw() % built.size;
            if (built.stones[place] != OPEN && readsWith(w, place, OPEN)) {
                now.dropBrick(built, place);
                fallen++;
            }
        }
        return fallen;
    }

    // ---- classes inside

    private static final class Wall {
        final int[] stones = new int[BRICKS_MOST];
        int kind;
        int m;
        int size;

        void begin(int ofKind, int withM, int bricksInAll) {
            kind = ofKind;
            m = withM;
            size = bricksInAll;
            Arrays.fill(stones, OPEN);
        }

        void copyFrom(Wall other) {
            kind = other.kind;
            m = other.m;
            size = other.size;
            System.arraycopy(other.stones, 0, stones, 0, BRICKS_MOST);
        }

        void openFrom(int place, int width) {
            int end = Math.min(size, place + width);
            for (int i = Math.max(place, 0); i < end; i++) {
                stones[i] = OPEN;
            }
        }

        int countLetters() {
            int found = 0;
            for (int i = 0; i < size; i++) {
                found += stones[i] != OPEN ? 1 : 0;
            }
            return found;
        }
    }

    /** LETTERS in a row, as a WALL IS READ AS them. */
    private static final class Row {
        final int[] letters = new int[ROW_MOST];
        int size;

        void append(Wall wall) {
            for (int i = 0; i < wall.size; i++) {
                if (wall.stones[i] != OPEN && size < ROW_MOST) {
                    letters[size] = wall.stones[i];
                    size++;
                }
            }
        }

        void reverse() {
            for (int i = 0; i < size / 2; i++) {
                int other = size - 1 - i;
                int letter = letters[i];
                letters[i] = letters[other];
                letters[other] = letter;
            }
        }

        void leaveOutSeconds() {
            int left = (size + 1) / 2;
            for (int i = 0; i < left; i++) {
                letters[i] = letters[2 * i];
            }
            size = left;
        }

        void mirrorLetters() {
            for (int i = 0; i < size; i++) {
                letters[i] = LETTERS + 1 - letters[i];
            }
        }

        void turnBy(Text turns, int m) {
            for (int i = 0; i < size; i++) {
                int given = turns.worth(letters[i], i, size, m);
                letters[i] = isLetter(given) ? given : 1;
            }
        }
    }

    private static final class Word {
        final int[] letters = new int[WORD_LETTERS];
        int sort;
        int size;

        void begin(int ofSort, int letter) {
            sort = ofSort;
            letters[0] = letter;
            size = 1;
        }

        void copyFrom(Word other) {
            sort = other.sort;
            size = other.size;
            System.arraycopy(other.letters, 0, letters, 0, WORD_LETTERS);
        }

        boolean standsAt(Row row, int at) {
            if (at < 0 || size > row.size - at) {
                return false;
            }
            for (int i = 0; i < size; i++) {
                if (row.letters[at + i] != letters[i]) {
                    return false;
                }
            }
            return true;
        }

        int unlikeAt(Row row, int at) {
            if (at < 0 || size > row.size - at) {
                return FAR;
            }
            int unlike = 0;
            for (int i = 0; i < size; i++) {
                unlike += row.letters[at + i] != letters[i] ? 1 : 0;
            }
            return unlike;
        }
    }

    private static final class Tongue {
        final Word[] words = new Word[WORDS_MOST];
        int size;

        Tongue() {
            for (int i = 0; i < WORDS_MOST; i++) {
                words[i] = new Word();
            }
        }

        boolean has(int word) {
            return word >= 0 && word < size;
        }

        void copyFrom(Tongue other) {
            size = other.size;
            for (int i = 0; i < WORDS_MOST; i++) {
                words[i].copyFrom(other.words[i]);
            }
        }
    }

    /** The grammar: how rows of WORDS that are a LAW lie over a row of LETTERS. */
    private static final class Laws {
        // By place: the states (bits) from which WORDS over all that is left end a LAW.
        final int[] ends = new int[ROW_MOST + 1];
        // By place and state: what the walk in hand keeps of the WORDS that lead there.
        final int[] kept = new int[(ROW_MOST + 1) * STATES];
        final int[] said = new int[ROW_MOST];
        int saidSize;

        boolean hold(Tongue tongue, Row row) {
            Arrays.fill(ends, 0);
            ends[row.size] = 1 << ENDED;
            for (int at = row.size - 1; at >= 0; at--) {
                for (int w = 0; w < tongue.size; w++) {
                    if (leadsToEnd(tongue.words[w], row, at)) {
                        ends[at] |= COMES_IN[tongue.words[w].sort];
                    }
                }
            }
            return (ends[0] & (1 << BEGUN)) != 0;
        }

        private boolean leadsToEnd(Word word, Row row, int at) {
            return word.standsAt(row, at)
                    && (ends[at + word.size] & (1 << LEADS_TO[word.sort])) != 0;
        }

        /** Looks for SAYS: as ends is known, the lowest WORD that leads on never leads astray. */
        boolean find(Tongue tongue, Row row) {
            saidSize = 0;
            if (!hold(tongue, row)) {
                return false;
            }
            int at = 0;
            int state = BEGUN;
            for (int i = 0; i < ROW_MOST && at < row.size; i++) {
                int w = lowestThatLeadsOn(tongue, row, at, state);
                if (w < 0) {
                    return false;
                }
                said[i] = w;
                saidSize++;
                at += tongue.words[w].size;
                state = LEADS_TO[tongue.words[w].sort];
            }
            return true;
        }

        private int lowestThatLeadsOn(Tongue tongue, Row row, int at, int state) {
            for (int w = 0; w < tongue.size; w++) {
                Word word = tongue.words[w];
                if ((COMES_IN[word.sort] & (1 << state)) != 0 && leadsToEnd(word, row, at)) {
                    return w;
                }
            }
            return -1;
        }

        int firstNotSaid(int[] numbers, int size) {
            int both = Math.min(size, saidSize);
            for (int i = 0; i < both; i++) {
                if (numbers[i] != said[i]) {
                    return i;
                }
            }
            return size == saidSize ? -1 : both;
        }

        private void countFromBegin(Tongue tongue, Row row) {
            Arrays.fill(kept, 0);
            kept[BEGUN] = 1;
            for (int at = 0; at < row.size; at++) {
                for (int w = 0; w < tongue.size; w++) {
                    Word word = tongue.words[w];
                    if (word.standsAt(row, at)) {
                        int to = (at + word.size) * STATES + LEADS_TO[word.sort];
                        kept[to] = Math.min(WAYS_MOST, kept[to] + waysInto(word.sort, at));
                    }
                }
            }
        }

        private int waysInto(int sort, int at) {
            int ways = 0;
            for (int state = 0; state < STATES; state++) {
                if ((COMES_IN[sort] & (1 << state)) != 0) {
                    ways += kept[at * STATES + state];
                }
            }
            return ways;
        }

        int countWays(Tongue tongue, Row row) {
            countFromBegin(tongue, row);
            return kept[row.size * STATES + ENDED];
        }

        int stuckAt(Tongue tongue, Row row) {
            countFromBegin(tongue, row);
            int farthest = 0;
            for (int i = 0; i < (row.size + 1) * STATES; i++) {
                if (kept[i] > 0) {
                    farthest = i / STATES;
                }
            }
            return farthest;
        }

        /** MENDS of a row; FAR if no LAW is so long. */
        int fewestUnlike(Tongue tongue, Row row) {
            Arrays.fill(kept, FAR);
            kept[BEGUN] = 0;
            for (int at = 0; at < row.size; at++) {
                for (int w = 0; w < tongue.size; w++) {
                    Word word = tongue.words[w];
                    if (word.size <= row.size - at) {
                        int to = (at + word.size) * STATES + LEADS_TO[word.sort];
                        int unlike = leastInto(word.sort, at) + word.unlikeAt(row, at);
                        kept[to] = Math.min(kept[to], unlike);
                    }
                }
            }
            return kept[row.size * STATES + ENDED];
        }

        private int leastInto(int sort, int at) {
            int least = FAR;
            for (int state = 0; state < STATES; state++) {
                if ((COMES_IN[sort] & (1 << state)) != 0) {
                    least = Math.min(least, kept[at * STATES + state]);
                }
            }
            return least;
        }
    }

    /** BUILDS: walks all rows of WORDS that are a LAW, lower WORDS first. */
    private static final class Builder {
        final int[] left = new int[LETTERS + 1];
        Tongue tongue;
        int most;
        int found;
        int first;
        int firstSize;

        void search(Tongue told, int[] heaped, int wordsMost) {
            System.arraycopy(heaped, 0, left, 0, LETTERS + 1);
            tongue = told;
            most = Math.min(wordsMost, BUILD_WORDS_MOST);
            found = 0;
            first = 0;
            firstSize = BUILD_WORDS_MOST + 1;
            extend(BEGUN, 0, 0);
        }

        private void extend(int state, int depth, int digits) {
            if (state == ENDED) {
                note(depth, digits);
            }
            if (depth >= most || tongue == null) {
                return;
            }
            for (int w = 0; w < tongue.size; w++) {
                Word word = tongue.words[w];
                if ((COMES_IN[word.sort] & (1 << state)) != 0) {
                    if (take(word)) {
                        extend(LEADS_TO[word.sort], depth + 1, digits * BUILD_BASE + w + 1);
                    }
                    giveBack(word);
                }
            }
        }

        private void note(int size, int digits) {
            found++;
            if (size < firstSize) {
                firstSize = size;
                first = digits;
            }
        }

        /** All LETTERS go out, below nothing too, so that giveBack() is the same in both cases. */
        private boolean take(Word word) {
            boolean enough = true;
            for (int i = 0; i < word.size; i++) {
                left[word.letters[i]]--;
                enough = enough && left[word.letters[i]] >= 0;
            }
            return enough;
        }

        private void giveBack(Word word) {
            for (int i = 0; i < word.size; i++) {
                left[word.letters[i]]++;
            }
        }
    }

    /**
     * A TEXT as signs in the order in which they are worked out: numbers as they are, the i-th NAME
     * as -1 - i, an operator as less than nothing by its byte.
     */
    private static final class Text {
        final int[] signs = new int[TAPE_MOST];
        final int[] stack = new int[TAPE_MOST];
        final int[] named = new int[NAMES_MOST];
        int size;

        boolean isTold() {
            return size > 0;
        }

        void copyFrom(Text other) {
            size = other.size;
            System.arraycopy(other.signs, 0, signs, 0, TAPE_MOST);
        }

        int worth(int first, int second, int third, int fourth) {
            named[0] = first;
            named[1] = second;
            named[2] = third;
            named[3] = fourth;
            int top = 0;
            for (int i = 0; i < size; i++) {
                int sign = signs[i];
                if (sign >= -NAMES_MOST && top < TAPE_MOST) {
                    stack[top] = sign >= 0 ? sign : named[-1 - sign];
                    top++;
                } else if (sign == -'!' && top >= 1) {
                    stack[top - 1] = stack[top - 1] == 0 ? 1 : 0;
                } else if (sign < -NAMES_MOST && top >= 2) {
                    stack[top - 2] = joined(-sign, stack[top - 2], stack[top - 1]);
                    top--;
                }
            }
            return top > 0 ? stack[top - 1] : 0;
        }

        private static int joined(int operator, int a, int b) {
            switch (operator) {
                case '+': return a + b;
                case '-': return a - b;
                case '*': return a * b;
                case '/': return b == 0 ? 0 : a / b;
                case '%': return b == 0 ? 0 : a % b;
                case '<': return a < b ? 1 : 0;
                case '=': return a == b ? 1 : 0;
                case '>': return a > b ? 1 : 0;
                case '&': return a != 0 && b != 0 ? 1 : 0;
                default: return a != 0 || b != 0 ? 1 : 0;
            }
        }
    }

    private static final class Parser {
        final int[] bytes = new int[TAPE_MOST];
        final int[] signs = new int[TAPE_MOST];
        int size;
        int at;
        int signCount;
        int fault;
        String names = "";

        /** The FAULT of a tape, or -1 if it is a TEXT, which handTo() then hands out. */
        int faultOf(int[] tape, int taped, String namesOfUse) {
            System.arraycopy(tape, 0, bytes, 0, TAPE_MOST);
            size = taped;
            names = namesOfUse;
            at = 0;
            signCount = 0;
            fault = -1;
            level(0, 0);
            if (at < size) {
                failHere();
            }
            return fault;
        }

        void handTo(Text told) {
            System.arraycopy(signs, 0, told.signs, 0, TAPE_MOST);
            told.size = signCount;
        }

        /** From a fault on nothing more is read, so that at stays where the first one is. */
        private int next() {
            return fault < 0 && at < size ? bytes[at] : -1;
        }

        private void failHere() {
            if (fault < 0) {
                fault = at;
            }
        }

        private void emit(int sign) {
            if (signCount < TAPE_MOST) {
                signs[signCount] = sign;
                signCount++;
            }
        }

        /** The levels are those of T, A, B, S, P in this order; below them stands Q. */
        private void level(int rank, int depth) {
            if (rank >= LEVELS) {
                operand(depth);
                return;
            }
            level(rank + 1, depth);
            int most = rank == COMPARISONS ? 1 : TAPE_MOST;
            for (int i = 0; i < most && rankOf(next()) == rank; i++) {
                int operator = next();
                at++;
                level(rank + 1, depth);
                emit(-operator);
            }
        }

        private static int rankOf(int operator) {
            switch (operator) {
                case '|': return 0;
                case '&': return 1;
                case '<': case '=': case '>': return COMPARISONS;
                case '+': case '-': return 3;
                case '*': case '/': case '%': return 4;
                default: return -1;
            }
        }

        private void operand(int depth) {
            int sign = next();
            if (isDigit(sign)) {
                number();
            } else if (sign >= 0 && names.indexOf((char) sign) >= 0) {
                at++;
                emit(-1 - names.indexOf((char) sign));
            } else if (sign == '!' && depth < OPEN_SIGNS_MOST) {
                at++;
                operand(depth + 1);
                emit(-'!');
            } else if (sign == '(' && depth < OPEN_SIGNS_MOST) {
                at++;
                level(0, depth + 1);
                close();
            } else {
                failHere();
            }
        }

        private void close() {
            if (next() == ')') {
                at++;
            } else {
                failHere();
            }
        }

        private void number() {
            int value = 0;
            for (int i = 0; i < DIGITS_MOST && isDigit(next()); i++) {
                value = value * 10 + next() - '0';
                at++;
            }
            emit(value);
        }

        private static boolean isDigit(int sign) {
            return sign >= '0' && sign <= '9';
        }
    }

    private static final class Speaker {
        final int[] trace = new int[TRACE_MOST];
        int traced;
        boolean parted;
        int kind;
        int m;
        int k;

        int answer(Wall wall, int number, int voice, int x) {
            kind = wall.kind;
            m = wall.m;
            k = number;
            traced = 0;
            parted = false;
            return speak(voice, kind, x, 0);
        }

        /** The BODY of a VOICE of a KIND, or of the next KIND above that has one. */
        private int speak(int voice, int from, int x, int depth) {
            if (parted || depth > VOICE_DEPTH) {
                return 0;
            }
            int holder = from;
            for (int i = 0; i < KINDS && holder >= 0; i++) {
                int body = BODIES[voice * KINDS + holder];
                if (body != 0) {
                    note(body);
                    return sound(body, ABOVE[holder], x, depth + 1);
                }
                holder = ABOVE[holder];
            }
            return 0;
        }

        private void note(int body) {
            if (traced < TRACE_MOST) {
                trace[traced] = body;
                traced++;
            }
        }

        private int sound(int body, int above, int x, int depth) {
            switch (body) {
                case 10: return x + k;
                case 11: return speak(READS, kind, x, depth) * 2;
                case 12: return speak(SAYS, kind, x, depth) - m;
                case 13: return quotient(x, m - k);
                case 20: return speak(READS, above, x, depth) - 6;
                case 21: return speak(MENDS, above, x, depth) + speak(SAYS, kind, 1, depth);
                case 30: return -speak(SAYS, above, x, depth);
                case 40: return speak(FALLS, above, x / 2, depth);
                case 50: return speak(READS, above, x, depth) * 3;
                case 51: return speak(FALLS, above, x, depth) ^ k;
                case 60: return speak(SAYS, above, x + 1, depth);
                case 70: return 8;
                case 71: return speak(SAYS, above, x, depth) + m;
                default: return 0;
            }
        }

        private int quotient(int a, int b) {
            if (b == 0) {
                parted = true;
                return 0;
            }
            return a / b;
        }
    }

    private static final class Sheet {
        final int[] numbers = new int[SHEET_MOST];
        int bits;
        int size;

        boolean isMissing() {
            return bits == 0;
        }

        void begin(int ofBits, int n) {
            bits = ofBits;
            size = n;
            Arrays.fill(numbers, 0);
        }

        void write(int i, int v) {
            numbers[i] = bits == 8 ? (byte) v : bits == 16 ? (short) v : v;
        }

        boolean holds(int from, int n) {
            return n >= 0 && from >= 0 && n <= size && from <= size - n;
        }
    }

    /** All that an IMAGE keeps. */
    private static final class Town {
        final Wall[] walls = new Wall[WALLS_MOST];
        final Tongue tongue = new Tongue();
        final Text turns = new Text();
        final Text prices = new Text();
        final int[] tape = new int[TAPE_MOST];
        final int[] heaped = new int[LETTERS + 1];
        final int[] waiting = new int[WAITING_MOST];
        int wallCount;
        int taped;
        int waits;
        int season;
        int purse = PURSE_AT_FIRST;
        int z = 1;

        Town() {
            for (int i = 0; i < WALLS_MOST; i++) {
                walls[i] = new Wall();
            }
        }

        void copyFrom(Town other) {
            for (int i = 0; i < WALLS_MOST; i++) {
                walls[i].copyFrom(other.walls[i]);
            }
            tongue.copyFrom(other.tongue);
            turns.copyFrom(other.turns);
            prices.copyFrom(other.prices);
            System.arraycopy(other.tape, 0, tape, 0, TAPE_MOST);
            System.arraycopy(other.heaped, 0, heaped, 0, LETTERS + 1);
            System.arraycopy(other.waiting, 0, waiting, 0, WAITING_MOST);
            wallCount = other.wallCount;
            taped = other.taped;
            waits = other.waits;
            season = other.season;
            purse = other.purse;
            z = other.z;
        }

        boolean hasWall(int wall) {
            return wall >= 0 && wall < wallCount;
        }

        boolean hasPlace(int wall, int place) {
            return hasWall(wall) && place >= 0 && place < walls[wall].size;
        }

        Text textOf(int use) {
            return use == TURNS ? turns : prices;
        }

        /** What a WALL that bears a number IS READ AS; it may be a trial in place of the one there. */
        void spell(Wall wall, int number, Row row) {
            row.size = 0;
            row.append(wall);
            if (isUnder(wall.kind, CORNER) && wall.m != number && hasWall(wall.m)) {
                row.append(walls[wall.m]);
            }
            if (isUnder(wall.kind, BACK) || wall.kind == FACED) {
                row.reverse();
            }
            if (wall.kind == SECOND) {
                row.leaveOutSeconds();
            } else if (wall.kind == TURNED) {
                row.mirrorLetters();
            } else if (wall.kind == TOLD && turns.isTold()) {
                row.turnBy(turns, wall.m);
            }
        }

        int priceOf(int letter) {
            if (!prices.isTold()) {
                return letter == DEAR_LETTER ? 1 + season : 1;
            }
            int told = prices.worth(letter, season, heaped[letter], 0);
            return Math.max(0, Math.min(PRICE_MOST, told));
        }

        int costOf(Wall wall) {
            int cost = 0;
            for (int i = 0; i < wall.size; i++) {
                cost += wall.stones[i] != OPEN ? priceOf(wall.stones[i]) : 0;
            }
            return cost;
        }

        int countHeap() {
            int found = 0;
            for (int l = 1; l <= LETTERS; l++) {
                found += heaped[l];
            }
            return found;
        }

        void dropBrick(Wall wall, int place) {
            int letter = wall.stones[place];
            if (letter != OPEN) {
                heaped[letter] = Math.min(HEAP_MOST, heaped[letter] + 1);
                wall.stones[place] = OPEN;
            }
        }

        int draw() {
            z = z * 1103515245 + 12345;
            return z >>> 8;
        }
    }
}
