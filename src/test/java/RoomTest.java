import com.sun.management.ThreadMXBean;
import java.lang.management.ManagementFactory;

/** The dearest runs of 512 calls, counted by the bytes that they make: rule 12 of LANGUAGE.md, and the room for a run. */
public final class RoomTest {
    private static final int CALLS = 512;
    private static final int MOST_BYTES = 1_000_000;

    private static final ThreadMXBean THREADS = (ThreadMXBean) ManagementFactory.getThreadMXBean();

    private interface Step {
        void call(Loomkeeper x, int call);
    }

    public static void main(String[] args) {
        Due.holds("An object is used for at most 512 calls after it has been made; // one object after the other", () -> {
            for (int i = 0; i < 3; i++) {
                bytes((x, call) -> x.now());
            }
            Due.is("a new object is small", bytes((x, call) -> x.now()) < MOST_BYTES / 2, true);
        });
        Due.holds("An object is used for at most 512 calls after it has been made; // all of them replays", () -> {
            cheap("check", (x, call) -> {
                fillFirst(x, call);
                x.check(0, 19, call % 18, call % 100, 0);
            });
            cheap("set", (x, call) -> {
                fillFirst(x, call);
                x.set(0, call % 20, call % 18, call % 100, call % 7);
            });
            cheap("crash", (x, call) -> {
                fillFirst(x, call);
                x.crash();
            });
        });
        Due.holds("An object is used for at most 512 calls after it has been made; // all of them make tasks", () -> {
            cheap("complete", (x, call) -> {
                int tokenOf = call / 2;
                if (call < 60) {
                    x.set(call / 20, call % 20, call % 20 == 19 ? Due.JUMP : Due.CALL, call % 20 == 19 ? 0 : call, 0);
                } else if (call < 100) {
                    x.start(call % 3, 1);
                } else if (call % 2 == 0) {
                    x.poll();
                } else {
                    x.complete(tokenOf - 49, 1);
                }
            });
            cheap("tick", (x, call) -> {
                if (call < 60) {
                    x.set(call / 20, call % 20, call % 3 == 0 ? Due.CALL : Due.TIMER, 1, 0);
                } else if (call < 100) {
                    x.start(call % 3, 1);
                } else if (call % 2 == 0) {
                    x.poll();
                } else {
                    x.tick(50);
                }
            });
        });
        Due.end();
    }

    /** 40 workflows, of which some get all the signals that 300 calls can bring. */
    private static void fillFirst(Loomkeeper x, int call) {
        if (call == 0) {
            x.set(0, 0, Due.AWAIT, 1, 0);
            for (int i = 0; i < 40; i++) {
                x.start(0, i);
            }
        }
        if (call < 300) {
            x.signal(call % 40, 2, 1);
        }
    }

    private static void cheap(String name, Step step) {
        long bytes = bytes(step);
        Due.is(name + " makes " + bytes + " bytes, more than " + MOST_BYTES, bytes > MOST_BYTES, false);
    }

    private static long bytes(Step step) {
        long thread = Thread.currentThread().getId();
        long before = THREADS.getThreadAllocatedBytes(thread);
        Loomkeeper x = new Loomkeeper();
        for (int i = 0; i < CALLS; i++) {
            step.call(x, i);
        }
        return THREADS.getThreadAllocatedBytes(thread) - before;
    }
}
