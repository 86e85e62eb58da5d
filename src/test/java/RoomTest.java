import com.sun.management.ThreadMXBean;
import java.lang.management.ManagementFactory;

/** All rows are made in the constructor: no call makes an object, not even the dearest. */
final class RoomTest {
    private static final long BYTES_OF_ONE_OBJECT_MOST = 64 * 1024;
    private static final ThreadMXBean THREADS = (ThreadMXBean) ManagementFactory.getThreadMXBean();

    public static void main(String[] args) {
        Due due = new Due();
        allCalls(filled());
        long before = bytes();
        LetterWalls x = filled();
        long made = bytes() - before;
        due.is("bytes of an object at most, not " + made, 1, made <= BYTES_OF_ONE_OBJECT_MOST ? 1 : 0);
        before = bytes();
        for (int i = 0; i < 20; i++) {
            allCalls(x);
        }
        made = bytes() - before;
        due.is("bytes of calls", 0, made <= 1024 ? 0 : made);
        due.end();
    }

    private static long bytes() {
        return THREADS.getThreadAllocatedBytes(Thread.currentThread().getId());
    }

    private static LetterWalls filled() {
        LetterWalls x = new LetterWalls();
        for (int i = 0; i < 12; i++) {
            x.word(i % 4 == 2 ? 3 : i % 4 == 3 ? 4 : i % 4, 5);
        }
        for (int w = 0; w < 6; w++) {
            x.wall(w == 0 ? 60 : 30 + (w + 1) % 6, 24);
            for (int i = 0; i < 23; i++) {
                x.brick(w, i, 5);
            }
        }
        for (int l = 1; l <= 26; l++) {
            x.heap(l, 99);
        }
        x.feed(0x6D2A696C2B6CL, 6);
        x.sheet(0, 32, 24);
        x.sheet(1, 32, 24);
        return x;
    }

    private static void allCalls(LetterWalls x) {
        for (int w = 0; w < 6; w++) {
            for (int what = 0; what < 8; what++) {
                x.wallIs(w, what);
            }
            x.readAs(w, 0);
            x.as(w, 0);
            x.says(w, 0);
            x.doors(w, 1);
            x.spare(w);
            x.others(w, 0);
            x.steps(w);
            x.mends(w);
            x.wish(w, 0);
            x.voice(w, w % 4, 7);
            x.tell(1);
            x.check(w);
        }
        x.text(0);
        x.feed(0x312B6CL, 3);
        x.text(1);
        x.price(5);
        x.builds(7, 1);
        x.years(20);
        x.image();
        x.restore();
        x.move(0, 0, 1, 1, 20);
        x.put(0, 0, 5);
        x.bricks(0, 5);
        x.lay(5, 23, 5, 1);
        x.falls(5);
        x.count(2);
        x.told(1);
    }
}
