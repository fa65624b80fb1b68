/** Promise 7: reset. */
public final class ResetTest {
    public static void main(String[] args) {
        whichException();
        toEachEvent();
        signalsComeAgain();
        tasksAnew();
        timers();
        children();
        byOtherCode();
        asked();
        noRoom();
        Due.end();
    }

    private static void whichException() {
        Loomkeeper x = new Loomkeeper();
        Due.throwsIndex("no workflow", () -> x.reset(0, 1));
        Due.code(x, 0, Due.s(Due.AWAIT, 1));
        x.start(0, 0);
        x.start(1, 0);
        Due.throwsIndex("the workflow is told first", () -> x.reset(2, 0));
        Due.throwsIndex("the workflow is told first", () -> x.reset(-1, 0));
        for (int events : new int[] {0, -1, 2, 3, Integer.MIN_VALUE, Integer.MAX_VALUE}) {
            Due.throwsArgument("events of one that ended: " + events, () -> x.reset(1, events));
        }
        for (int events : new int[] {0, -1, 2, 3, Integer.MIN_VALUE, Integer.MAX_VALUE}) {
            Due.throwsArgument("events of one that has not: " + events, () -> x.reset(0, events));
        }
        Due.throwsState("it has not ended", () -> x.reset(0, 1));
        Due.is("nothing was started", x.workflows(), 2);
        Due.is("reset", x.reset(1, 1), 2);
        Due.is("reset of a reset one", x.reset(2, 1), 3);
    }

    private static void toEachEvent() {
        Loomkeeper x = new Loomkeeper();
        Due.code(x, 0, Due.s(Due.CHANCE, 99), Due.s(Due.MARK, 3), Due.s(Due.TAKE, 50), Due.s(Due.CHANCE, 9));
        x.start(0, 7);
        Due.history("the old one", x, 0, 0, 7, 9, 49, 10, 3, 9, 9, 13, 91);
        Due.is("to its first event", x.reset(0, 1), 1);
        long second = (75L * 11249 + 74) % 65537;
        long third = (75L * second + 74) % 65537;
        Due.history("all is drawn anew", x, 1, 0, 7, 9, second % 100, 10, 3, 9, third % 10, 13, third % 10 * 10 + 1);
        Due.is("to the last one ahead of END", x.reset(0, 4), 2);
        Due.history("nothing is drawn anew", x, 2, 0, 7, 9, 49, 10, 3, 9, 9, 13, 91);
        Due.is("to one in between", x.reset(0, 2), 3);
        long fourth = (75L * third + 74) % 65537;
        Due.history("in between", x, 3, 0, 7, 9, 49, 10, 3, 9, fourth % 10, 13, fourth % 10 * 10 + 1);
        Due.is("no parent", x.parent(3), -1);
        Due.is("program", x.about(3, 0), 0);
        Due.is("the old one stays", x.events(0), 5);
    }

    private static void signalsComeAgain() {
        Loomkeeper x = new Loomkeeper();
        Due.code(x, 0, Due.s(Due.AWAIT, 1), Due.s(Due.CALL, 4), Due.s(Due.AWAIT, 2), Due.s(Due.AWAIT, 1));
        x.start(0, 0);
        x.signal(0, 2, 21);
        x.signal(0, 1, 11);
        x.signal(0, 3, 31);
        x.complete(x.poll(), 5);
        x.signal(0, 1, 12);
        Due.is("state", x.state(0), 1);
        Due.is("reset", x.reset(0, 2), 1);
        Due.history("the signals behind these", x, 1, 0, 0, 6, 221, 6, 111, 1, 4, 6, 331, 6, 112);
        Due.about("it waits for the activity", x, 1, 2, 11, 1, 1, 0, 0, 0, 3);
        x.complete(x.poll(), 6);
        Due.is("state", x.state(1), 1);
        Due.is("value", x.about(1, 2), 12);
        x.set(0, 2, Due.FAIL, 0, 0);
        Due.is("reset", x.reset(0, 6), 2);
        Due.history("no signal into one that has ended", x, 2, 0, 0, 6, 221, 6, 111, 1, 4, 6, 331, 2, 5, 13, 52);
    }

    private static void tasksAnew() {
        Loomkeeper x = new Loomkeeper();
        Due.code(x, 3, Due.s(Due.UNDO, 9), Due.s(Due.CALL, 4));
        x.start(3, 0);
        x.cancel(0);
        x.complete(x.poll(), 1);
        Due.history("the old one", x, 0, 0, 0, 1, 4, 12, 0, 11, 9, 2, 1, 13, 3);
        Due.is("reset", x.reset(0, 2), 1);
        Due.is("tasks", x.tasks(), 3);
        Due.task("anew", x, 2, 1, 4, 0, 0, 0, 0);
        Due.about("it waits for it", x, 1, 2, 0, 1, 2, 1, 0, 0, 0);
        Due.is("without an event", x.events(1), 2);
        Due.is("reset", x.reset(0, 4), 2);
        Due.task("undoing anew", x, 3, 2, 9, 0, 0, 0, 0);
        Due.about("it undoes", x, 2, 2, 0, 6, 3, 0, 0, 3, 0);
        x.complete(x.poll(), 8);
        x.complete(x.poll(), 8);
        Due.is("state", x.state(1), 1);
        Due.is("state", x.state(2), 3);
        Due.is("reset", x.reset(0, 3), 3);
        Due.is("undone by an event of its own", x.events(3), 4);
        Due.task("undone by an event of its own", x, 4, 3, 9, 0, 0, 0, 0);
    }

    private static void timers() {
        Loomkeeper x = new Loomkeeper();
        Due.code(x, 0, Due.s(Due.TIMER, 4), Due.s(Due.ADD, 1));
        x.start(0, 0);
        x.tick(9);
        Due.is("reset", x.reset(0, 2), 1);
        Due.about("it waits for a tick that was", x, 1, 1, 0, 2, 4);
        x.tick(1);
        Due.is("state", x.state(1), 1);
        Due.is("reset", x.reset(0, 1), 2);
        Due.about("a tick of its own", x, 2, 1, 0, 2, 14);
    }

    private static void children() {
        Loomkeeper x = new Loomkeeper();
        Due.code(x, 0, Due.s(Due.START, 1), Due.s(Due.CHILD, 2));
        Due.code(x, 1, Due.s(Due.AWAIT, 1));
        Due.code(x, 2, Due.s(Due.ADD, 1));
        x.start(0, 0);
        Due.history("the old one", x, 0, 0, 0, 14, 1, 7, 2, 8, 21, 13, 21);
        Due.throwsState("it would wait for a child", () -> x.reset(0, 3));
        Due.throwsArgument("too many", () -> x.reset(0, 5));
        Due.is("nothing started", x.workflows(), 3);
        Due.is("reset", x.reset(0, 2), 3);
        Due.is("a child of its own", x.parent(4), 3);
        Due.history("a child of its own", x, 3, 0, 0, 14, 1, 7, 4, 8, 21, 13, 21);
        Due.is("reset", x.reset(0, 4), 5);
        Due.history("with the child of the old one", x, 5, 0, 0, 14, 1, 7, 2, 8, 21, 13, 21);
        Due.is("reset", x.reset(0, 1), 6);
        Due.is("started anew", x.number(6, 1), 7);
    }

    private static void byOtherCode() {
        Loomkeeper x = new Loomkeeper();
        Due.code(x, 0, Due.s(Due.CHANCE, 3), Due.s(Due.CHANCE, 3), Due.s(Due.CHANCE, 3));
        x.start(0, 0);
        x.set(0, 1, Due.TIMER, 5, 0);
        Due.throwsState("they do not go with the code", () -> x.reset(0, 3));
        Due.throwsState("they do not go with the code", () -> x.reset(0, 4));
        Due.is("these do by themselves", x.reset(0, 2), 1);
        Due.about("by the new code", x, 1, 2, 1, 2, 5);
        x.set(0, 1, Due.MARK, 5, 0);
        Due.is("a MARK behind these", x.reset(0, 2), 2);
        Due.is("is made by the new one", x.kind(2, 2), 10);
    }

    private static void asked() {
        Loomkeeper x = new Loomkeeper();
        Due.code(x, 0, Due.s(Due.UNDO, 5), Due.s(Due.CHILD, 1));
        Due.code(x, 1, Due.s(Due.SHIELD), Due.s(Due.AWAIT, 1));
        x.start(0, 0);
        x.cancel(0);
        x.complete(x.poll(), 0);
        Due.is("state", x.state(0), 3);
        Due.is("the child was asked", x.events(1), 2);
        Due.is("reset", x.reset(0, 3), 2);
        Due.history("it undoes", x, 2, 0, 0, 7, 1, 12, 0, 11, 5);
        Due.is("the child is not asked again", x.events(1), 2);
    }

    private static void noRoom() {
        Loomkeeper x = new Loomkeeper();
        for (int i = 0; i < 40; i++) {
            x.start(0, 0);
        }
        Due.throwsArgument("the events are told first", () -> x.reset(0, 2));
        Due.throwsState("there are 40", () -> x.reset(0, 1));
        Due.is("workflows", x.workflows(), 40);
    }
}
