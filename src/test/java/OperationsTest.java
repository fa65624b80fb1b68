/** The Terms of promises 4, 15, 16 and 19 to 21: what each operation does, and when a step fails instead. */
public final class OperationsTest {
    public static void main(String[] args) {
        values();
        places();
        theValueGoesOnAsNew();
        signals();
        ticks();
        chance();
        undoing();
        failing();
        theSixtyFirstStep();
        stepsAreCountedAnewBehindAnEvent();
        sixtyEvents();
        twentyOnThePile();
        Due.end();
    }

    private static Loomkeeper with(int[]... steps) {
        Loomkeeper x = new Loomkeeper();
        Due.code(x, 0, steps);
        return x;
    }

    private static void values() {
        Loomkeeper x = with(Due.s(Due.ADD, 99), Due.s(Due.TAKE, 30));
        Due.is("start", x.start(0, -70), 0);
        Due.history("ADD and TAKE", x, 0, 0, -70, 13, -9);
        Due.about("ADD and TAKE", x, 0, 3, -1, 0, 0, 0, 0, 0, 0);
    }

    private static void places() {
        Loomkeeper x = with(Due.s(Due.BRANCH, 25), Due.s(Due.ADD, 1), Due.s(Due.JUMP, 59));
        Due.code(x, 0, Due.s(Due.BRANCH, 25));
        x.set(0, 5, Due.AWAIT, 1, 0);
        x.set(0, 19, Due.TAKE, 1, 0);
        x.start(0, 0);
        Due.about("BRANCH goes to 25 modulo 20 by 0", x, 0, 6, 0, 3, 1);
        x.start(0, 1);
        // 1, then 2, then 59 modulo 20 is 19, and 0 comes behind it.
        Due.is("it goes round until the 61st step", x.state(1), 2);
        Due.history("it goes round until the 61st step", x, 1, 0, 1, 13, 12);
        x.set(0, 1, Due.TAKE, 1, 0);
        x.start(0, 2);
        Due.about("BRANCH by 0 behind the step 19", x, 2, 6, 0, 3, 1);
    }

    private static void theValueGoesOnAsNew() {
        Loomkeeper x = with(Due.s(Due.ADD, 99), Due.s(Due.AS_NEW));
        x.start(0, 0);
        Due.is("as new 39 times", x.workflows(), 40);
        Due.is("the value of the last one", x.about(39, 2), 99 * 40);
        Due.history("the last one had no room", x, 39, 0, 99 * 39, 14, -1, 13, 99 * 40 * 10 + 2);
        Due.history("the first one", x, 0, 0, 0, 14, 1, 13, 994);
    }

    private static void signals() {
        Loomkeeper x = with(Due.s(Due.TIMER, 2), Due.s(Due.AWAIT, 5), Due.s(Due.UNDO, 0),
            Due.s(Due.AWAIT, 5), Due.s(Due.SELECT, 6, 50), Due.s(Due.AWAIT, 6), Due.s(Due.AWAIT, 0));
        x.start(0, 0);
        int[][] sent = {{6, 60}, {5, 51}, {99, 99}, {5, 52}, {6, 61}, {5, 53}};
        for (int[] s : sent) {
            Due.is("signal", x.signal(0, s[0], s[1]), true);
        }
        Due.is("all are kept", x.about(0, 8), 6);
        x.tick(2);
        // 51 and 52 are used up, the SELECT uses up 60 without an event, and 61 is awaited.
        Due.about("the first one is taken first", x, 0, 7, 61, 3, 0, 1, 0, 0, 2);
        Due.history("no event by a SELECT of a kept signal", x, 0, 0, 0, 4, 2, 6, 660, 6, 551, 6, 9999,
            6, 552, 6, 661, 6, 553, 5, 0);
        Due.is("what comes with it may be 0", x.signal(0, 0, 0), true);
        Due.is("state", x.state(0), 1);
        Due.is("value", x.about(0, 2), 0);
        Due.is("kept when it ended", x.about(0, 8), 2);
    }

    private static void ticks() {
        Loomkeeper x = with(Due.s(Due.TIMER, 0), Due.s(Due.SELECT, 1, 0), Due.s(Due.SELECT, 1, 99));
        x.tick(4);
        x.start(0, 8);
        Due.about("at least one tick", x, 0, 1, 8, 2, 5, 0, 0, 0, 0);
        x.tick(1);
        Due.about("a TIMER leaves the value, a SELECT waits at least one tick", x, 0, 2, 8, 4, 1);
        Due.is("due", x.number(0, 3), 6);
        x.tick(1);
        Due.about("0 for the ticks", x, 0, 3, 0, 4, 1);
        x.signal(0, 1, 0);
        Due.history("1 for the signal", x, 0, 0, 8, 4, 5, 5, 0, 4, 6, 5, 0, 4, 105, 6, 100, 13, 11);
        Due.is("nothing is kept", x.about(0, 8), 0);
    }

    private static void chance() {
        Loomkeeper x = with(Due.s(Due.CHANCE, 0), Due.s(Due.CHANCE, 99), Due.s(Due.CHANCE, 9), Due.s(Due.CHANCE, 1));
        x.start(0, 5);
        long drawn = 1;
        int[] most = {0, 99, 9, 1};
        for (int i = 0; i < 4; i++) {
            drawn = (75 * drawn + 74) % 65537;
            Due.is("kind", x.kind(0, i + 1), 9);
            Due.is("drawn", x.number(0, i + 1), drawn % (most[i] + 1));
        }
        x.aboutAnew(0, 2);
        x.crash();
        x.start(0, 5);
        drawn = (75 * drawn + 74) % 65537;
        drawn = (75 * drawn + 74) % 65537;
        Due.is("only events that are made draw", x.number(1, 2), drawn % 100);
    }

    private static void undoing() {
        Loomkeeper x = with(Due.s(Due.UNDO, 3), Due.s(Due.UNDO, 9), Due.s(Due.UNDO, 3), Due.s(Due.CALL, 1));
        x.start(0, 6);
        for (int i = 0; i < 3; i++) {
            x.fail(x.poll());
            x.tick(8);
        }
        Due.about("it undoes the last one first", x, 0, 4, 6, 6, 1, 2, 0, 2, 0);
        Due.is("signal", x.signal(0, 4, 4), true);
        Due.is("cancel", x.cancel(0), true);
        Due.about("it stays as it is", x, 0, 4, 6, 6, 1, 2, 0, 2, 1);
        x.complete(x.poll(), 77);
        Due.about("the value stays", x, 0, 4, 6, 6, 2, 1, 0, 2, 1);
        for (int i = 0; i < 3; i++) {
            x.fail(x.poll());
            x.tick(8);
        }
        Due.about("however it ends", x, 0, 4, 6, 6, 3, 0, 0, 2, 1);
        x.complete(x.poll(), -5);
        Due.about("then it ends", x, 0, 4, 6, 0, 0, 0, 0, 0, 1);
        Due.is("state", x.state(0), 2);
        Due.history("undone", x, 0, 0, 6, 1, 1, 3, 0, 11, 3, 6, 404, 12, 0, 2, 77, 11, 9, 3, 0, 11, 3, 2, -5, 13, 62);
    }

    private static void failing() {
        Loomkeeper x = with(Due.s(Due.FAIL));
        x.start(0, -3);
        Due.history("FAIL", x, 0, 0, -3, 13, -28);
        Due.is("state", x.state(0), 2);
        Due.is("place", x.about(0, 1), 1);
        x.set(0, 0, Due.UNDO, 4, 0);
        x.set(0, 1, Due.END, 0, 0);
        x.start(0, 0);
        Due.is("ends well with a pile", x.state(1), 1);
        Due.about("what is on the pile is not undone", x, 1, 2, 0, 0, 0, 1, 0, 0, 0);
    }

    private static void theSixtyFirstStep() {
        // 59 steps, and END is the 60th one.
        Loomkeeper x = with(Due.s(Due.TAKE, 1), Due.s(Due.BRANCH, 4), Due.s(Due.JUMP, 0));
        x.start(0, 20);
        // 3 steps for each one but the last, which takes 2, and then END: 3 * 19 + 2 + 1 = 60.
        Due.history("END as the 60th step", x, 0, 0, 20, 13, 1);
        x.set(0, 4, Due.ADD, 5, 0);
        x.start(0, 20);
        Due.history("END as the 61st step", x, 1, 0, 20, 13, 52);
        Due.is("state", x.state(1), 2);
        x.set(0, 4, Due.AWAIT, 1, 0);
        x.start(0, 20);
        Due.is("AWAIT as the 60th step", x.state(2), 0);
        x.set(0, 4, Due.ADD, 0, 0);
        Due.is("a history that goes on is cut off by the 61st step", x.state(2), 2);
        x.set(0, 5, Due.AWAIT, 1, 0);
        x.start(0, 20);
        Due.history("AWAIT as the 61st step", x, 3, 0, 20, 13, 2);
    }

    private static void stepsAreCountedAnewBehindAnEvent() {
        Loomkeeper x = with(Due.s(Due.AWAIT, 1), Due.s(Due.BRANCH, 19), Due.s(Due.TAKE, 1), Due.s(Due.JUMP, 1));
        x.start(0, 0);
        for (int i = 0; i < 5; i++) {
            // 3 * 19 and BRANCH, 19, 0: 60.
            x.set(0, 19, Due.ADD, 0, 0);
            x.signal(0, 1, 19);
            Due.about("60 steps", x, 0, 1, 0, 3, 1);
        }
        x.signal(0, 1, 20);
        Due.is("61 steps and more", x.state(0), 2);
        // A signal that it does not wait for counts anew as well: at the signal 2 nothing is left to do.
        Loomkeeper y = with(Due.s(Due.AWAIT, 1));
        y.start(0, 0);
        y.signal(0, 2, 0);
        Due.about("kept", y, 0, 1, 0, 3, 1, 0, 0, 0, 1);
    }

    private static void sixtyEvents() {
        int[] refused = {Due.CALL, Due.TIMER, Due.SELECT, Due.CHILD, Due.START, Due.CHANCE, Due.MARK, Due.AS_NEW};
        for (int op : refused) {
            for (int sent = 58; sent <= 59; sent++) {
                Loomkeeper x = with(Due.s(Due.AWAIT, 1), Due.s(op, 3, 3));
                Due.code(x, 3, Due.s(Due.AWAIT, 0));
                x.start(0, 2);
                for (int i = 1; i < sent; i++) {
                    x.signal(0, 2, 2);
                }
                Due.is("the last signal", x.signal(0, 1, 7), true);
                boolean fails = x.events(0) == 61 && x.kind(0, 60) == 13 && x.number(0, 60) == 72;
                Due.is("operation " + op + " behind " + (sent + 1), fails, sent == 59);
                if (sent == 59) {
                    Due.about("it failed", x, 0, 2, 7, 0, 0, 0, 0, 0, 58);
                    Due.is("nothing was started", x.workflows() + x.tasks(), 1);
                }
            }
        }
        theseAreNotRefused();
    }

    private static void theseAreNotRefused() {
        Loomkeeper x = with(Due.s(Due.AWAIT, 1), Due.s(Due.SELECT, 2, 3), Due.s(Due.AWAIT, 2), Due.s(Due.UNDO, 4),
            Due.s(Due.SHIELD), Due.s(Due.OPEN), Due.s(Due.ADD, 1), Due.s(Due.AWAIT, 7));
        x.start(0, 2);
        for (int i = 1; i < 70; i++) {
            x.signal(0, 2, 6);
        }
        x.signal(0, 1, 7);
        Due.about("a SELECT of a kept signal, an AWAIT", x, 0, 8, 7, 3, 7, 1, 0, 0, 67);
        x.cancel(0);
        Due.about("UNDOES is made behind any number", x, 0, 8, 7, 6, 0, 0, 0, 3, 67);
    }

    private static void twentyOnThePile() {
        Loomkeeper x = with(Due.s(Due.UNDO, 1), Due.s(Due.TAKE, 1), Due.s(Due.BRANCH, 10), Due.s(Due.JUMP, 0));
        x.set(0, 10, Due.AWAIT, 1, 0);
        // Four steps for each, so two times 13 steps would be too many: it waits in between.
        x.set(0, 11, Due.JUMP, 0, 0);
        x.start(0, 10);
        x.signal(0, 1, 10);
        Due.about("twenty", x, 0, 11, 0, 3, 1, 20, 0, 0, 0);
        x.signal(0, 1, 1);
        Due.about("one more fails", x, 0, 1, 1, 6, 0, 19, 0, 2, 0);
        for (int i = 0; i < 20; i++) {
            Due.is("undone", x.complete(x.poll(), 0), true);
        }
        Due.is("state", x.state(0), 2);
        Due.is("tasks", x.tasks(), 20);
        Due.is("events", x.events(0), 1 + 2 + 40 + 1);
    }
}
