/** Promises 9 to 13 and 22 to 24: poll, complete, fail, beat, tick, tasks, task, now. */
public final class WorkersTest {
    public static void main(String[] args) {
        limits();
        oneTask();
        triesAndBackoff();
        leases();
        whichTaskIsServed();
        tokensThatAreNot();
        standingStill();
        ticksByRisingNumbers();
        timersThatWereDue();
        Due.end();
    }

    private static Loomkeeper with(int program, int[]... steps) {
        Loomkeeper x = new Loomkeeper();
        Due.code(x, program, steps);
        return x;
    }

    private static void limits() {
        Loomkeeper x = with(0, Due.s(Due.CALL, 1));
        x.start(0, 0);
        int token = x.poll();
        Due.throwsArgument("result", () -> x.complete(token, 1000) ? 1 : 0);
        Due.throwsArgument("result", () -> x.complete(token, -1000) ? 1 : 0);
        Due.throwsArgument("result with no token", () -> x.complete(-7, Integer.MAX_VALUE) ? 1 : 0);
        Due.throwsArgument("no ticks", () -> x.tick(0));
        Due.throwsArgument("too many ticks", () -> x.tick(51));
        Due.throwsArgument("ticks back", () -> x.tick(Integer.MIN_VALUE));
        Due.is("now", x.now(), 0);
        Due.is("complete", x.complete(token, -999), true);
        Due.is("value", x.about(0, 2), -999);
        Due.is("tick", x.tick(50), 50);
        Due.is("tick", x.tick(1), 51);
        Due.is("now", x.now(), 51);
        for (int t : new int[] {-1, 1, Integer.MIN_VALUE, Integer.MAX_VALUE}) {
            Due.throwsIndex("task " + t, () -> x.task(t, 0));
            Due.throwsIndex("task before what", () -> x.task(t, 6));
        }
        for (int what : new int[] {-1, 6, Integer.MIN_VALUE, Integer.MAX_VALUE}) {
            Due.throwsArgument("task " + what, () -> x.task(0, what));
        }
    }

    private static void oneTask() {
        Loomkeeper x = with(4, Due.s(Due.CALL, 99), Due.s(Due.AWAIT, 1));
        Due.is("poll", x.poll(), -1);
        x.start(4, 3);
        Due.is("tasks", x.tasks(), 1);
        Due.task("ready", x, 0, 0, 99, 0, 0, 0, 0);
        x.tick(7);
        Due.is("poll", x.poll(), 1);
        Due.task("it runs", x, 0, 0, 99, 1, 0, 1, 13);
        Due.is("poll", x.poll(), -1);
        Due.is("complete", x.complete(1, 999), true);
        Due.task("closed", x, 0, 0, 99, 3, 0, 1, 0);
        Due.history("done", x, 0, 0, 3, 1, 99, 2, 999);
        Due.is("complete again", x.complete(1, 999), false);
        Due.is("fail then", x.fail(1), false);
        Due.is("beat then", x.beat(1), false);
        Due.is("tasks", x.tasks(), 1);
    }

    private static void triesAndBackoff() {
        Loomkeeper x = with(0, Due.s(Due.CALL, 1));
        x.start(0, 3);
        Due.is("fail", x.fail(x.poll()), true);
        Due.task("it rests", x, 0, 0, 1, 2, 1, 1, 2);
        Due.is("fail what rests", x.fail(1), false);
        Due.is("poll", x.poll(), -1);
        x.tick(1);
        Due.task("it rests", x, 0, 0, 1, 2, 1, 1, 2);
        x.tick(1);
        Due.task("ready", x, 0, 0, 1, 0, 1, 1, 0);
        Due.is("a token that was", x.complete(1, 0), false);
        Due.is("poll", x.poll(), 2);
        Due.is("the token before", x.complete(1, 0), false);
        x.tick(1);
        Due.is("fail", x.fail(2), true);
        Due.task("it rests longer", x, 0, 0, 1, 2, 2, 2, 7);
        x.tick(4);
        Due.is("poll", x.poll(), 3);
        Due.is("fail", x.fail(3), true);
        Due.task("closed by the third", x, 0, 0, 1, 3, 3, 3, 0);
        Due.history("failed", x, 0, 0, 3, 1, 1, 3, 0, 13, 32);
    }

    private static void leases() {
        Loomkeeper x = with(0, Due.s(Due.CALL, 1));
        x.start(0, 3);
        x.poll();
        x.tick(5);
        Due.is("beat", x.beat(1), true);
        Due.task("longer", x, 0, 0, 1, 1, 0, 1, 11);
        Due.is("beat", x.beat(2), false);
        x.tick(5);
        Due.task("still", x, 0, 0, 1, 1, 0, 1, 11);
        x.tick(1);
        Due.task("the ticks are over", x, 0, 0, 1, 2, 1, 1, 13);
        Due.is("a late result", x.complete(1, 5), false);
        Due.is("a late beat", x.beat(1), false);
        x.tick(2);
        Due.is("poll", x.poll(), 2);
        x.tick(6);
        Due.task("again", x, 0, 0, 1, 2, 2, 2, 23);
        x.tick(4);
        Due.is("poll", x.poll(), 3);
        x.tick(6);
        Due.is("the third time", x.state(0), 2);
        Due.task("closed", x, 0, 0, 1, 3, 3, 3, 0);
        // All of it within one call, ticks going one by one.
        Loomkeeper y = with(0, Due.s(Due.CALL, 1));
        y.start(0, 3);
        y.poll();
        y.tick(8);
        Due.task("over at 6, rested at 8", y, 0, 0, 1, 0, 1, 1, 0);
    }

    private static void whichTaskIsServed() {
        Loomkeeper x = new Loomkeeper();
        for (int p = 0; p < 6; p++) {
            Due.code(x, p, Due.s(Due.CALL, p), Due.s(Due.CALL, 9));
        }
        int[] programs = {5, 5, 3, 1, 3, 1, 5};
        for (int p : programs) {
            x.start(p, 0);
        }
        // Never served: 1 (tasks 3 and 5), 3 (2 and 4), 5 (0, 1 and 6).
        int[] due = {3, 2, 0, 5, 4, 1, 6};
        for (int i = 0; i < due.length; i++) {
            if (i == 4) {
                x.tick(1);
            }
            Due.is("poll", x.poll(), i + 1);
            Due.is("token of " + due[i], x.task(due[i], 4), i + 1);
        }
        Due.is("poll", x.poll(), -1);
        x.complete(2, 0);
        x.complete(1, 0);
        x.start(0, 0);
        // Of 3 is ready: 7, of 1: 8, and of 0, never served: 9. 1 was served before 3.
        int[] then = {9, 8, 7};
        for (int i = 0; i < then.length; i++) {
            Due.is("poll", x.poll(), i + 8);
            Due.is("token of " + then[i], x.task(then[i], 4), i + 8);
        }
    }

    private static void tokensThatAreNot() {
        Loomkeeper x = with(0, Due.s(Due.CALL, 1));
        x.start(0, 3);
        for (int t : new int[] {0, -1, 1, 2, Integer.MIN_VALUE, Integer.MAX_VALUE}) {
            Due.is("complete", x.complete(t, 0), false);
            Due.is("fail", x.fail(t), false);
            Due.is("beat", x.beat(t), false);
        }
        Due.task("nothing happened", x, 0, 0, 1, 0, 0, 0, 0);
    }

    private static void standingStill() {
        Loomkeeper x = with(0, Due.s(Due.CALL, 1), Due.s(Due.AWAIT, 5));
        Due.code(x, 1, Due.s(Due.CALL, 2));
        x.start(0, 0);
        x.start(0, 0);
        x.start(1, 0);
        x.poll();
        x.tick(2);
        Due.is("set", x.set(0, 0, Due.CALL, 3, 0), 2);
        Due.is("complete", x.complete(1, 0), false);
        Due.is("fail", x.fail(1), false);
        Due.is("beat", x.beat(1), false);
        Due.is("only the task of the other program", x.poll(), 2);
        Due.is("nothing else", x.poll(), -1);
        x.complete(2, 0);
        x.tick(20);
        Due.task("it runs as it did", x, 0, 0, 1, 1, 0, 1, 6);
        Due.is("set back", x.set(0, 0, Due.CALL, 1, 0), 0);
        Due.is("beat", x.beat(1), true);
        Due.task("it runs longer", x, 0, 0, 1, 1, 0, 1, 28);
        x.set(0, 0, Due.CALL, 3, 0);
        x.tick(20);
        x.set(0, 0, Due.CALL, 1, 0);
        x.tick(1);
        Due.task("until a tick that was", x, 0, 0, 1, 2, 1, 1, 45);
        x.set(0, 0, Due.CALL, 3, 0);
        x.tick(9);
        x.cancel(0);
        Due.task("not closed as long as it is astray", x, 0, 0, 1, 2, 1, 1, 45);
        x.set(0, 0, Due.CALL, 1, 0);
        Due.task("closed", x, 0, 0, 1, 3, 1, 1, 0);
        Due.is("state", x.state(0), 3);
    }

    private static void ticksByRisingNumbers() {
        Loomkeeper x = with(0, Due.s(Due.TIMER, 6), Due.s(Due.CHANCE, 99), Due.s(Due.AWAIT, 1));
        Due.code(x, 1, Due.s(Due.UNDO, 1), Due.s(Due.CALL, 9));
        x.start(0, 0);
        x.start(1, 0);
        x.start(0, 0);
        x.start(1, 0);
        for (int i = 0; i < 2; i++) {
            x.fail(x.poll());
            x.fail(x.poll());
            x.tick(4);
        }
        Due.history("the first timer", x, 0, 0, 0, 4, 6, 5, 0, 9, 49);
        Due.history("the second timer", x, 2, 0, 0, 4, 6, 5, 0, 9, (75L * 149 + 74) % 65537 % 100);
        x.poll();
        x.poll();
        x.tick(6);
        Due.task("of the first", x, 2, 1, 1, 0);
        Due.task("of the second", x, 3, 3, 1, 0);
        Due.is("now", x.now(), 14);
    }

    private static void timersThatWereDue() {
        Loomkeeper x = with(0, Due.s(Due.TIMER, 3), Due.s(Due.AWAIT, 1));
        x.start(0, 2);
        x.set(0, 0, Due.CALL, 3, 0);
        x.tick(10);
        Due.is("no FIRED for one astray", x.events(0), 2);
        x.set(0, 0, Due.TIMER, 7, 0);
        Due.is("not by the code alone", x.events(0), 2);
        Due.about("it waits for a tick that was", x, 0, 1, 2, 2, 3);
        x.tick(1);
        Due.history("at the next tick", x, 0, 0, 2, 4, 3, 5, 0);
    }
}
