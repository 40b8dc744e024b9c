import com.sun.management.ThreadMXBean;
import java.lang.management.ManagementFactory;

/** 'All memory is rows made once': after the constructor no call that is not refused makes anything. */
public final class MemoryTest {
    /* So few that the machine does not yet leave out by itself what a call makes and forgets. */
    private static final int ROUNDS = 10;
    private static int answers;

    public static void main(String[] args) {
        Check check = new Check();
        ThreadMXBean threads = (ThreadMXBean) ManagementFactory.getThreadMXBean();
        long self = Thread.currentThread().getId();
        long least = Long.MAX_VALUE;
        // The machine may make something of its own now and then: a round without that tells what the calls make.
        for (int i = 0; i < ROUNDS; i++) {
            SecondWaves x = new SecondWaves();
            long before = threads.getThreadAllocatedBytes(self);
            use(x);
            long made = threads.getThreadAllocatedBytes(self) - before;
            least = Math.min(least, made);
        }
        check.same("bytes made by a whole run", least, 0);
        check.same("the runs did something", answers > 0 ? 1 : 0, 1);
        check.end();
    }

    /** Some 425 calls, every one of the face, with every room full. */
    private static void use(SecondWaves x) {
        x.top(9);
        for (int i = 0; i < 20; i++) {
            x.trigger(i % 4, 1 + i / 4, i / 2, i);
        }
        for (int i = 0; i < 40; i++) {
            x.row(i % 10, i % 8, i % 31);
            x.unit(i % 8);
        }
        for (int i = 0; i < 12; i++) {
            x.begin();
        }
        for (int i = 0; i < 40; i++) {
            x.go(i, i % 12, i);
        }
        for (int i = 0; i < 20; i++) {
            x.arrive(i);
        }
        for (int i = 0; i < 12; i++) {
            answers += x.word(i, 2) + x.word(i, 98) + x.hurt(i, 100) + x.ask(i, 5) + x.tick(3);
            x.tell(i);
            answers += x.calm(i, 0) + x.needed(i, 3);
        }
        for (int i = 0; i < 12; i++) {
            for (int what = 0; what < 7; what++) {
                answers += x.incident(i, what);
            }
            answers += x.acted(i) + x.unitAt(i, 0) + x.unitAt(i, 1) + x.unitAt(i, 2) + x.count(i % 4);
            x.close(i);
        }
    }
}
