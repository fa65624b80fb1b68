/** Promises 4 to 6, 8, 14, 15 and 18 to 21: start, signal, cancel, crash, and what they leave. */
public final class WorkflowsTest {
    public static void main(String[] args) {
        starting();
        room();
        sending();
        ninetyEvents();
        cancelling();
        shields();
        crashing();
        telling();
        Due.end();
    }

    private static void starting() {
        Loomkeeper x = new Loomkeeper();
        Due.throwsIndex("program -1", () -> x.start(-1, 0));
        Due.throwsIndex("program 6", () -> x.start(6, 1000));
        Due.throwsArgument("input 1000", () -> x.start(0, 1000));
        Due.throwsArgument("input -1000", () -> x.start(5, -1000));
        Due.is("nothing started", x.workflows(), 0);
        Due.is("start", x.start(5, 999), 0);
        Due.is("start", x.start(0, -999), 1);
        Due.history("most", x, 0, 0, 999, 13, 9991);
        Due.history("least", x, 1, 0, -999, 13, -9989);
        Due.is("about its program", x.about(0, 0), 5);
        Due.is("no parent", x.parent(0), -1);
    }

    private static void room() {
        Loomkeeper x = new Loomkeeper();
        for (int i = 0; i < 40; i++) {
            Due.is("start", x.start(1, i), i);
        }
        Due.throwsState("start a 41st", () -> x.start(1, 0));
        Due.throwsArgument("input is told first", () -> x.start(1, 1000));
        Due.throwsIndex("the program is told first", () -> x.start(6, 0));
        Due.is("workflows", x.workflows(), 40);
    }

    private static void sending() {
        Loomkeeper x = new Loomkeeper();
        Due.code(x, 0, Due.s(Due.AWAIT, 99), Due.s(Due.AWAIT, 0));
        x.start(0, 1);
        Due.throwsIndex("signal", () -> x.signal(1, 0, 0) ? 1 : 0);
        Due.throwsIndex("signal", () -> x.signal(-1, 100, 0) ? 1 : 0);
        int[][] bad = {{-1, 0}, {100, 0}, {0, -1}, {0, 100}};
        for (int[] b : bad) {
            Due.throwsArgument("signal " + b[0] + " " + b[1], () -> x.signal(0, b[0], b[1]) ? 1 : 0);
        }
        Due.is("signal", x.signal(0, 99, 98), true);
        Due.about("it got it", x, 0, 2, 98, 3, 0);
        Due.is("signal", x.signal(0, 0, 99), true);
        Due.is("to one that has ended", x.signal(0, 0, 99), false);
        Due.history("signals", x, 0, 0, 1, 6, 9998, 6, 99, 13, 991);
    }

    private static void ninetyEvents() {
        Loomkeeper x = new Loomkeeper();
        Due.code(x, 0, Due.s(Due.UNDO, 1), Due.s(Due.CALL, 1), Due.s(Due.SELECT, 9, 4), Due.s(Due.CALL, 5));
        x.start(0, 1);
        for (int i = 2; i < 90; i++) {
            Due.is("signal " + i, x.signal(0, 9, i), true);
        }
        Due.is("signal into 90", x.signal(0, 9, 1), false);
        Due.is("cancel into 90", x.cancel(0), false);
        Due.is("events", x.events(0), 90);
        x.complete(x.poll(), 5);
        Due.about("DONE comes all the same", x, 0, 4, 1, 6, 1, 0, 0, 2, 87);
        Due.is("events", x.events(0), 92);
        Due.is("signal into 92", x.signal(0, 9, 1), false);
        x.complete(x.poll(), 5);
        Due.is("events", x.events(0), 94);
        Due.is("state", x.state(0), 2);

        Loomkeeper y = new Loomkeeper();
        Due.code(y, 0, Due.s(Due.TIMER, 5), Due.s(Due.AWAIT, 1));
        y.start(0, 0);
        for (int i = 2; i < 89; i++) {
            y.signal(0, 2, 0);
        }
        Due.is("cancel into 89", y.cancel(0), true);
        Due.is("it ended", y.state(0), 3);
        Due.is("events", y.events(0), 91);
    }

    private static void cancelling() {
        Loomkeeper x = new Loomkeeper();
        Due.throwsIndex("cancel", () -> x.cancel(0) ? 1 : 0);
        Due.code(x, 0, Due.s(Due.UNDO, 8), Due.s(Due.CALL, 1));
        x.start(0, 4);
        int token = x.poll();
        Due.is("cancel", x.cancel(0), true);
        Due.about("it undoes", x, 0, 2, 4, 6, 1, 0, 0, 3, 0);
        Due.task("its task is closed", x, 0, 0, 1, 3, 0, token, 0);
        Due.is("complete what is closed", x.complete(token, 0), false);
        Due.is("cancel one that undoes", x.cancel(0), true);
        x.complete(x.poll(), 0);
        Due.is("state", x.state(0), 3);
        Due.is("cancel one that has ended", x.cancel(0), false);
        Due.history("cancelled", x, 0, 0, 4, 1, 1, 12, 0, 11, 8, 12, 0, 2, 0, 13, 43);
        Due.is("how it will end is told of one that undoes", x.about(0, 7), 0);
        Due.throwsIndex("cancel", () -> x.cancel(1) ? 1 : 0);
        Due.throwsIndex("cancel", () -> x.cancel(-1) ? 1 : 0);
        int[][] waits = {{Due.AWAIT, 1}, {Due.TIMER, 9}, {Due.SELECT, 1, 9}};
        for (int[] w : waits) {
            Due.code(x, 1, w);
            int n = x.start(1, 0);
            Due.is("cancel", x.cancel(n), true);
            Due.is("state", x.state(n), 3);
            Due.about("it waits for nothing", x, n, 1, 0, 0, 0, 0, 0, 0, 0);
        }
    }

    private static void shields() {
        Loomkeeper x = new Loomkeeper();
        Due.code(x, 0, Due.s(Due.UNDO, 8), Due.s(Due.SHIELD), Due.s(Due.AWAIT, 1), Due.s(Due.OPEN), Due.s(Due.CALL, 1));
        x.start(0, 4);
        Due.about("in the shield", x, 0, 3, 4, 3, 1, 1, 1, 0, 0);
        Due.is("cancel", x.cancel(0), true);
        Due.is("cancel", x.cancel(0), true);
        Due.about("in the shield", x, 0, 3, 4, 3, 1, 1, 1, 0, 0);
        x.signal(0, 1, 2);
        Due.about("behind the step that opens it", x, 0, 4, 2, 6, 0, 0, 0, 3, 0);
        x.complete(x.poll(), 0);
        Due.history("cancelled", x, 0, 0, 4, 12, 0, 12, 0, 6, 102, 11, 8, 2, 0, 13, 23);
        // Failing in a shield comes first, and the shield stays.
        x.set(0, 3, Due.FAIL, 0, 0);
        x.start(0, 4);
        x.cancel(1);
        x.signal(1, 1, 2);
        Due.about("it fails in the shield", x, 1, 4, 2, 6, 1, 0, 1, 2, 0);
        x.complete(x.poll(), 0);
        Due.is("state", x.state(1), 2);
        // Ending well in a shield.
        x.set(0, 3, Due.END, 0, 0);
        x.start(0, 4);
        x.cancel(2);
        x.signal(2, 1, 2);
        Due.is("state", x.state(2), 1);
        Due.about("it ended in the shield", x, 2, 4, 2, 0, 0, 1, 1, 0, 0);
        // A shield that was opened, and one that never was.
        Due.code(x, 1, Due.s(Due.OPEN), Due.s(Due.SHIELD), Due.s(Due.OPEN), Due.s(Due.AWAIT, 1));
        x.start(1, 0);
        Due.about("opened", x, 3, 4, 0, 3, 1, 0, 0, 0, 0);
        x.cancel(3);
        Due.is("state", x.state(3), 3);
    }

    private static void crashing() {
        Loomkeeper x = new Loomkeeper();
        Due.code(x, 0, Due.s(Due.UNDO, 1), Due.s(Due.CALL, 2), Due.s(Due.TIMER, 3), Due.s(Due.AWAIT, 4));
        x.start(0, 0);
        x.start(1, 0);
        x.start(0, 1);
        Due.is("crash", x.crash(), 2);
        Due.about("found again", x, 0, 2, 0, 1, 0, 1, 0, 0, 0);
        int token = x.poll();
        Due.is("crash", x.crash(), 2);
        Due.is("the token is known still", x.complete(token, 8), true);
        Due.is("crash", x.crash(), 2);
        x.tick(3);
        Due.is("crash", x.crash(), 2);
        Due.about("it goes on as if nothing had", x, 0, 4, 8, 3, 4, 1, 0, 0, 0);
        x.signal(0, 4, 4);
        Due.is("crash", x.crash(), 1);
        Due.is("state", x.state(0), 1);
        x.set(0, 1, Due.TIMER, 2, 0);
        Due.is("one that does not go with the code has not ended", x.crash(), 1);
        Due.is("state", x.state(2), 5);
        Due.is("now", x.now(), 3);
    }

    private static void telling() {
        Loomkeeper x = new Loomkeeper();
        x.start(0, 0);
        int[] none = {-1, 1, 40, Integer.MIN_VALUE, Integer.MAX_VALUE};
        for (int w : none) {
            Due.throwsIndex("state", () -> x.state(w));
            Due.throwsIndex("about", () -> x.about(w, 0));
            Due.throwsIndex("about before what", () -> x.about(w, 9));
            Due.throwsIndex("aboutAnew", () -> x.aboutAnew(w, 0));
            Due.throwsIndex("aboutAnew before what", () -> x.aboutAnew(w, -1));
            Due.throwsIndex("parent", () -> x.parent(w));
            Due.throwsIndex("events", () -> x.events(w));
            Due.throwsIndex("kind", () -> x.kind(w, 0));
            Due.throwsIndex("number", () -> x.number(w, 0));
            Due.throwsIndex("signal", () -> x.signal(w, 0, 0) ? 1 : 0);
            Due.throwsIndex("cancel", () -> x.cancel(w) ? 1 : 0);
            Due.throwsIndex("reset", () -> x.reset(w, 1));
        }
        int[] bad = {-1, 9, Integer.MIN_VALUE, Integer.MAX_VALUE};
        for (int what : bad) {
            Due.throwsArgument("about " + what, () -> x.about(0, what));
            Due.throwsArgument("aboutAnew " + what, () -> x.aboutAnew(0, what));
        }
        for (int event : new int[] {-1, 2, 139, 140, Integer.MIN_VALUE, Integer.MAX_VALUE}) {
            Due.throwsIndex("kind " + event, () -> x.kind(0, event));
            Due.throwsIndex("number " + event, () -> x.number(0, event));
        }
        x.set(0, 0, Due.ADD, 1, 0);
        Due.throwsState("astray", () -> x.about(0, 8));
        Due.throwsArgument("what is told before astray", () -> x.about(0, 9));
        Due.throwsArgument("what is told before astray", () -> x.aboutAnew(0, 9));
        Due.is("state", x.state(0), 1);
    }
}
