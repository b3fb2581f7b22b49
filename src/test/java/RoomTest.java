import com.sun.management.ThreadMXBean;
import java.lang.management.ManagementFactory;

/** What an object and 512 calls on it make is little: nothing is given back in the room that they live in. */
public final class RoomTest {
    private static final ThreadMXBean THREADS = (ThreadMXBean) ManagementFactory.getThreadMXBean();
    /** 8 bytes hold an element at the most: far below 7.3 million of them. */
    private static final long MOST_BYTES = 400_000;

    public static void main(String[] args) {
        full();
        long before = made();
        BookBoards x = new BookBoards();
        long object = made() - before + x.count(0);
        System.out.println("an object: " + object + " bytes");
        Due.isTrue(object < 40_000, "an object is of " + object + " bytes");
        for (int round = 0; round < 2; round++) {
            calls(round == 1);
        }
        texts();
        Due.end();
    }

    private static long made() {
        return THREADS.getThreadAllocatedBytes(Thread.currentThread().getId());
    }

    private static BookBoards full() {
        BookBoards x = new BookBoards();
        for (int i = 0; i < 24; i++) {
            x.book(100 * (20 + i * 37 % 79) + 5 + i % 7, i % 8);
        }
        Due.text(x, "cost h*n+l*(h-n)/(1+n*n)+!(h>40&n<3|l=2)*(h+n)");
        Due.text(x, "grow p*(y-p)/3");
        Due.text(x, "walk h-p*3");
        x.keep();
        return x;
    }

    /** The first round warms up; in the second one the dearest calls make nothing. */
    private static void calls(boolean counts) {
        BookBoards x = full();
        long before = made();
        int sum = 0;
        for (int i = 0; i < 40; i++) {
            sum += x.few(3, -1) + x.few(2, 0) + x.edge() + x.setting(-2) + x.cases(0) + x.fullBy() + x.most(60, 1)
                    + x.inch(1) + x.check(30) + x.keep() + x.back();
        }
        long bytes = made() - before;
        if (counts) {
            System.out.println("440 calls: " + bytes + " bytes, sum " + sum);
            Due.isTrue(bytes < 20_000, "calls make " + bytes + " bytes");
        }
    }

    private static void texts() {
        BookBoards x = new BookBoards();
        x.keep();
        int[] tape = Due.bytes("grow p" + "+y".repeat(45));
        long before = made();
        for (int i = 0; i < 51; i++) {
            for (int at = 0; at < 96; at += 12) {
                x.feed(Due.four(tape, at), Due.four(tape, at + 4), Due.four(tape, at + 8));
            }
            Due.is(0, x.text());
            x.back();
        }
        long bytes = made() - before;
        System.out.println("510 calls with texts: " + bytes + " bytes");
        Due.isTrue(bytes < MOST_BYTES, "texts make " + bytes + " bytes");
    }
}
