/** Promises 2 and 3: set and check. */
public final class ProgramsTest {
    public static void main(String[] args) {
        limits();
        whichExceptionIsFirst();
        setCountsThoseAstray();
        setLetsThemGoOnByRisingNumbers();
        checkSetsNothing();
        marks();
        replayedNumbers();
        codeThatWaitsForSomethingElse();
        endedOnesKeepTheirState();
        Due.end();
    }

    private static void limits() {
        Loomkeeper x = new Loomkeeper();
        int[][] programs = {{-1, 0}, {6, 0}, {0, -1}, {0, 20}, {Integer.MIN_VALUE, 0}, {0, Integer.MAX_VALUE}};
        for (int[] p : programs) {
            Due.throwsIndex("set at " + p[0] + " " + p[1], () -> x.set(p[0], p[1], 0, 0, 0));
            Due.throwsIndex("check at " + p[0] + " " + p[1], () -> x.check(p[0], p[1], 0, 0, 0));
        }
        int[][] steps = {{-1, 0, 0}, {18, 0, 0}, {0, -1, 0}, {0, 100, 0}, {0, 0, -1}, {0, 0, 100}};
        for (int[] s : steps) {
            Due.throwsArgument("set " + s[0], () -> x.set(0, 0, s[0], s[1], s[2]));
            Due.throwsArgument("check " + s[0], () -> x.check(0, 0, s[0], s[1], s[2]));
        }
        Due.is("set at the edge", x.set(5, 19, 17, 99, 99), 0);
        Due.is("check at the edge", x.check(5, 19, 17, 99, 99), 0);
        Due.is("nothing was set by a call that threw", x.about(x.start(0, 4), 1), 1);
    }

    private static void whichExceptionIsFirst() {
        Loomkeeper x = new Loomkeeper();
        Due.throwsIndex("set", () -> x.set(6, 0, 18, 0, 0));
        Due.throwsIndex("set", () -> x.set(0, 20, 0, 100, 0));
        Due.throwsIndex("check", () -> x.check(-1, 0, 0, 0, -1));
        Due.throwsIndex("check", () -> x.check(0, -1, 99, 0, 0));
    }

    private static void setCountsThoseAstray() {
        Loomkeeper x = new Loomkeeper();
        Due.code(x, 1, Due.s(Due.AWAIT, 1), Due.s(Due.CALL, 3));
        for (int i = 0; i < 4; i++) {
            x.start(1, i);
        }
        x.start(0, 0);
        x.signal(1, 1, 5);
        x.signal(3, 1, 6);
        Due.is("check of the CALL", x.check(1, 1, Due.CALL, 4, 0), 2);
        Due.is("set of the CALL", x.set(1, 1, Due.CALL, 4, 0), 2);
        Due.is("set of another program", x.set(2, 1, Due.CALL, 4, 0), 0);
        Due.is("state 0", x.state(0), 0);
        Due.is("state 1", x.state(1), 5);
        Due.is("state 2", x.state(2), 0);
        Due.is("state 3", x.state(3), 5);
        Due.is("set back", x.set(1, 1, Due.CALL, 3, 0), 0);
        Due.is("state 1 goes again", x.state(1), 0);
        Due.about("1 goes again", x, 1, 2, 5, 1, 0);
    }

    private static void setLetsThemGoOnByRisingNumbers() {
        Loomkeeper x = new Loomkeeper();
        Due.code(x, 2, Due.s(Due.AWAIT, 1), Due.s(Due.CALL, 7));
        x.start(2, 0);
        x.start(1, 0);
        x.start(2, 0);
        x.start(2, 0);
        Due.is("set", x.set(2, 0, Due.ADD, 2, 0), 0);
        Due.is("tasks", x.tasks(), 3);
        Due.task("the first", x, 0, 0, 7, 0);
        Due.task("the second", x, 1, 2, 7, 0);
        Due.task("the third", x, 2, 3, 7, 0);
        Due.about("0 waits by the new code", x, 0, 2, 2, 1, 0, 0, 0, 0, 0);
        Due.is("those that ended do not go on", x.events(1), 2);
    }

    private static void checkSetsNothing() {
        Loomkeeper x = new Loomkeeper();
        Due.code(x, 0, Due.s(Due.AWAIT, 1));
        x.start(0, 0);
        Due.is("check", x.check(0, 0, Due.CALL, 1, 0), 0);
        Due.is("no task by check", x.tasks(), 0);
        Due.is("no event by check", x.events(0), 1);
        Due.about("it still waits for the signal", x, 0, 1, 0, 3, 1);
        x.signal(0, 2, 1);
        Due.is("a step that makes an event ahead of the signal", x.check(0, 0, Due.CALL, 1, 0), 1);
        Due.is("END ahead of the signal", x.check(0, 0, Due.END, 0, 0), 1);
        Due.is("a kept signal", x.check(0, 0, Due.AWAIT, 3, 0), 0);
        x.cancel(0);
        Due.is("those that ended do not count", x.check(0, 0, Due.CALL, 1, 0), 0);
    }

    private static void marks() {
        Loomkeeper x = new Loomkeeper();
        Due.code(x, 0, Due.s(Due.AWAIT, 1), Due.s(Due.CALL, 2), Due.s(Due.AWAIT, 3));
        x.start(0, 9);
        x.signal(0, 1, 4);
        Due.is("a MARK ahead of an event", x.set(0, 1, Due.MARK, 6, 0), 1);
        Due.is("with the CALL behind it", x.set(0, 2, Due.CALL, 2, 0), 0);
        Due.about("the value is 0 without the mark", x, 0, 3, 0, 1, 0);
        x.start(0, 9);
        x.signal(1, 1, 4);
        Due.history("a MARK in a new one", x, 1, 0, 9, 6, 104, 10, 6, 1, 2);
        Due.about("the value is 1 with the mark", x, 1, 3, 1, 1, 1);
        Due.is("another mark", x.set(0, 1, Due.MARK, 5, 0), 1);
        Due.is("the older one goes with it", x.state(0), 0);
        Due.is("the newer one does not", x.state(1), 5);
        Due.is("no mark", x.set(0, 1, Due.ADD, 5, 0), 1);
        Due.about("the older one without a mark", x, 0, 3, 9, 1, 0);
        // A mark that the code leaves out is an event too many.
        Due.is("the newer one still does not", x.state(1), 5);
    }

    private static void replayedNumbers() {
        Loomkeeper x = new Loomkeeper();
        Due.code(x, 0, Due.s(Due.TIMER, 9), Due.s(Due.CHANCE, 9), Due.s(Due.START, 3), Due.s(Due.CHILD, 1));
        Due.code(x, 1, Due.s(Due.AWAIT, 0));
        x.start(0, 0);
        x.tick(9);
        Due.history("all of it", x, 0, 0, 0, 4, 9, 5, 0, 9, 9, 14, 1, 7, 2);
        Due.is("another TIMER", x.check(0, 0, Due.TIMER, 2, 0), 0);
        Due.is("a SELECT", x.check(0, 0, Due.SELECT, 2, 2), 0);
        Due.is("another CHANCE", x.check(0, 1, Due.CHANCE, 1, 0), 0);
        Due.is("another START", x.check(0, 2, Due.START, 0, 0), 0);
        Due.is("another CHILD", x.check(0, 3, Due.CHILD, 5, 0), 0);
        Due.is("a CHILD for a START", x.check(0, 2, Due.CHILD, 3, 0), 1);
        Due.is("a START for a CHILD", x.check(0, 3, Due.START, 3, 0), 1);
        Due.is("a CALL for a TIMER", x.check(0, 0, Due.CALL, 9, 0), 1);
        x.set(0, 1, Due.CHANCE, 1, 0);
        Due.about("the number drawn counts", x, 0, 4, 1, 5, 2);
        x.set(0, 2, Due.ADD, 50, 0);
        Due.is("without the START", x.state(0), 5);
        Due.throwsState("about one astray", () -> x.about(0, 0));
        Due.throwsState("about one astray", () -> x.aboutAnew(0, 0));
    }

    private static void codeThatWaitsForSomethingElse() {
        Loomkeeper x = new Loomkeeper();
        Due.code(x, 0, Due.s(Due.SELECT, 4, 7), Due.s(Due.AWAIT, 4));
        x.start(0, 3);
        x.signal(0, 5, 1);
        Due.about("by the SELECT", x, 0, 1, 3, 4, 4, 0, 0, 0, 1);
        x.set(0, 0, Due.TIMER, 1, 0);
        Due.about("by the TIMER, the tick being that of the event", x, 0, 1, 3, 2, 7, 0, 0, 0, 1);
        x.signal(0, 4, 8);
        x.tick(7);
        Due.about("the signal was kept then", x, 0, 3, 8, 0, 0, 0, 0, 0, 1);
        Due.is("state", x.state(0), 1);
        Due.is("it ended", x.events(0), 6);
    }

    private static void endedOnesKeepTheirState() {
        Loomkeeper x = new Loomkeeper();
        Due.code(x, 0, Due.s(Due.ADD, 1), Due.s(Due.ADD, 1));
        x.start(0, 0);
        Due.is("set", x.set(0, 1, Due.ADD, 2, 0), 0);
        Due.is("check", x.check(0, 1, Due.ADD, 3, 0), 0);
        Due.is("state", x.state(0), 1);
        Due.throwsState("its END has another number", () -> x.about(0, 2));
        Due.throwsState("its END has another number", () -> x.aboutAnew(0, 2));
        x.set(0, 0, Due.ADD, 0, 0);
        Due.about("with the same END", x, 0, 3, 2, 0, 0, 0, 0, 0, 0);
        x.set(0, 1, Due.JUMP, 9, 0);
        x.set(0, 9, Due.ADD, 2, 0);
        Due.about("by another way", x, 0, 11, 2, 0, 0, 0, 0, 0, 0);
        x.set(0, 9, Due.AWAIT, 2, 0);
        Due.is("events", x.events(0), 2);
        Due.throwsState("END is nothing that it waits for", () -> x.about(0, 2));
    }
}
