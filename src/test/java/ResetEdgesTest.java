/** Promise 7: the edges of reset. */
public final class ResetEdgesTest {
    public static void main(String[] args) {
        howMany();
        whichCannot();
        whatItWaitsFor();
        signalsBehind();
        askedAmongThem();
        steps();
        Due.end();
    }

    /** 0 has ended: STARTED 5, SIGNAL 107, DREW 9, END 91. */
    private static Loomkeeper ended() {
        Loomkeeper x = Words.keeper("AWAIT 1", "CHANCE 9");
        x.start(0, 5);
        x.signal(0, 1, 7);
        return x;
    }

    private static void howMany() {
        Due.holds("`events`: how many, from 1 to those ahead of its END", () -> {
            Loomkeeper x = ended();
            for (int events : new int[] {Integer.MIN_VALUE, -1, 0, 4, 5, 139, 140, Integer.MAX_VALUE}) {
                Due.throwsArgument("reset to " + events, () -> x.reset(0, events));
            }
            Due.is("nothing is started", x.workflows(), 1);
            Due.is("1", x.reset(0, 1), 1);
            Due.is("1", Words.history(x, 1), "STARTED 5, SIGNAL 107, DREW 9, END 91");
            Due.is("3", x.reset(0, 3), 2);
            Due.is("3", Words.history(x, 2), "STARTED 5, SIGNAL 107, DREW 9, END 91");
            Due.is("none is drawn for it", x.reset(0, 2), 3);
            Due.is("none is drawn for it", Words.event(x, 3, 2), "DREW " + 57305 % 10);
        });
        Due.holds("`events`: how many, from 1 to those ahead of its END // of one that has STARTED and END alone", () -> {
            Loomkeeper x = new Loomkeeper();
            x.start(3, -999);
            Due.throwsArgument("2", () -> x.reset(0, 2));
            Due.is("1", x.reset(0, 1), 1);
            Due.is("the same", Words.history(x, 1), "STARTED -999, END -9989");
            Due.is("its program", x.about(1, 0), 3);
        });
        Due.holds("Starts a workflow without a parent by the first events of one that has ended // of a child", () -> {
            Loomkeeper x = Words.keeper("CHILD 1", "AWAIT 1");
            x.start(0, 5);
            Due.is("reset", x.reset(1, 1), 2);
            Due.is("the child's parent", x.parent(1), 0);
            Due.is("no parent", x.parent(2), -1);
            Due.is("nothing comes to that", Words.history(x, 0), "STARTED 5, CHILD 1, ENDED 51");
        });
        Due.holds("Starts a workflow without a parent by the first events of one that has ended // of each kind of end", () -> {
            Loomkeeper x = Words.keeper("AWAIT 1", "BRANCH 4", "FAIL");
            Words.set(x, 0, 4, "AS_NEW");
            x.start(0, 5);
            x.start(0, 5);
            x.start(0, 5);
            x.signal(0, 1, 3);
            x.cancel(1);
            x.signal(2, 1, 0);
            Due.is("how they ended", 100 * x.state(0) + 10 * x.state(1) + x.state(2), 234);
            Due.is("of one that failed", x.reset(0, 2), 4);
            Due.is("of one that failed", Words.history(x, 4), "STARTED 5, SIGNAL 103, END 32");
            Due.is("of one that was cancelled", x.reset(1, 2), 5);
            Due.is("of one that was cancelled", Words.history(x, 5), "STARTED 5, ASKED 0, END 53");
            Due.is("of one that went on as new", x.reset(2, 2), 6);
            Due.is("of one that went on as new", Words.history(x, 6), "STARTED 5, SIGNAL 100, BEGAN 7, END 4");
            Due.is("behind its BEGAN", x.reset(2, 3), 8);
            Due.is("behind its BEGAN", Words.history(x, 8), "STARTED 5, SIGNAL 100, BEGAN 3, END 4");
            Due.is("that starts nothing", x.workflows(), 9);
        });
    }

    private static void whichCannot() {
        Due.holds("if it has not ended, the events by themselves do not go with the code // not ended", () -> {
            Loomkeeper x = Words.keeper("AWAIT 1", "AWAIT 1");
            x.start(0, 5);
            x.signal(0, 1, 7);
            Due.throwsState("1", () -> x.reset(0, 1));
            Due.throwsArgument("0", () -> x.reset(0, 0));
            Due.throwsArgument("3", () -> x.reset(0, 3));
            x.signal(0, 1, 7);
            Due.is("ended", x.reset(0, 1), 1);
        });
        Due.holds("the events by themselves do not go with the code", () -> {
            Loomkeeper x = ended();
            Words.set(x, 0, 1, "TIMER 5");
            Due.throwsState("with DREW", () -> x.reset(0, 3));
            Due.is("without", x.reset(0, 2), 1);
            Due.is("it goes on by the code", Words.history(x, 1), "STARTED 5, SIGNAL 107, TIMER 5");
            Words.set(x, 0, 0, "TIMER 5");
            Due.throwsState("with SIGNAL alone", () -> x.reset(0, 2));
            Due.is("with STARTED alone, which always goes", x.reset(0, 1), 2);
            Due.is("its signal comes again", Words.history(x, 2), "STARTED 5, TIMER 5, SIGNAL 107");
        });
        Due.holds("or lead to one that waits for a child", () -> {
            Loomkeeper x = Words.keeper("CHILD 1", "AWAIT 1");
            Words.code(x, 1, "AWAIT 1");
            x.start(0, 5);
            x.signal(0, 9, 9);
            x.signal(1, 1, 6);
            x.signal(0, 1, 4);
            Due.is("the old one", Words.history(x, 0), "STARTED 5, CHILD 1, SIGNAL 909, ENDED 61, SIGNAL 104, END 41");
            Due.throwsState("at CHILD", () -> x.reset(0, 2));
            Due.throwsState("at a signal behind it", () -> x.reset(0, 3));
            Due.is("nothing is started", x.workflows(), 2);
            Due.is("at ENDED", x.reset(0, 4), 2);
            Due.is("at ENDED", Words.history(x, 2), "STARTED 5, CHILD 1, SIGNAL 909, ENDED 61, SIGNAL 104, END 41");
            Due.is("ahead of CHILD", x.reset(0, 1), 3);
            Due.is("ahead of CHILD", Words.history(x, 3), "STARTED 5, CHILD 4, SIGNAL 909, SIGNAL 104");
            Due.is("with a child of its own", x.parent(4), 3);
        });
        Due.holds("or lead to one that waits for a child // that there was no room for", () -> {
            Loomkeeper x = Words.keeper("CHILD 0");
            Words.code(x, 1, "CHILD 0");
            for (int i = 0; i < 39; i++) {
                x.start(2, 0);
            }
            x.start(1, 0);
            Due.is("no room", Words.history(x, 39), "STARTED 0, CHILD -1, END 2");
            Due.throwsState("there are 40", () -> x.reset(39, 2));
        });
        Due.holds("or there are 40", () -> {
            Loomkeeper x = ended();
            for (int i = 1; i < 40; i++) {
                x.start(1, 0);
            }
            Due.throwsIndex("the workflow is told first", () -> x.reset(40, 1));
            Due.throwsArgument("the events are told first", () -> x.reset(0, 4));
            Due.throwsState("there are 40", () -> x.reset(0, 1));
        });
        Due.holds("or there are 40 // the new one takes the last room, and fails by the step that wants one", () -> {
            Loomkeeper x = Words.keeper("AWAIT 1", "START 1");
            x.start(0, 5);
            x.signal(0, 1, 7);
            for (int i = 2; i < 39; i++) {
                x.start(1, 0);
            }
            Due.is("reset", x.reset(0, 2), 39);
            Due.is("no room for the one it starts", Words.history(x, 39), "STARTED 5, SIGNAL 107, BEGAN -1, END 72");
        });
    }

    private static void whatItWaitsFor() {
        Due.holds("(if it waits for an activity, that is scheduled anew as a task, without an event)", () -> {
            Loomkeeper x = Words.keeper("CALL 4", "UNDO 6", "CALL 7");
            x.start(0, 5);
            x.complete(x.poll(), 8);
            x.cancel(0);
            x.complete(x.poll(), 9);
            Due.is("the old one", Words.history(x, 0), "STARTED 5, SCHEDULED 4, DONE 8, SCHEDULED 7, ASKED 0, UNDOES 6, DONE 9, END 83");
            Due.is("tasks", x.tasks(), 3);
            int[] events = {2, 4, 6};
            int[] activities = {4, 7, 6};
            for (int i = 0; i < 3; i++) {
                Due.is("reset", x.reset(0, events[i]), i + 1);
                Due.is("no event", x.events(i + 1), events[i]);
                Due.is("the task", Words.task(x, 3 + i), "of " + (i + 1) + ", activity " + activities[i]
                    + ", ready, tries 0, token 0, until 0");
                Due.is("it waits for that", x.about(i + 1, 4), 3 + i);
            }
            Due.is("to one that waits for nothing", x.reset(0, 3), 4);
            Due.is("that schedules it by an event", Words.history(x, 4), "STARTED 5, SCHEDULED 4, DONE 8, SCHEDULED 7");
            Due.is("to the end", x.reset(0, 7), 5);
            Due.is("that schedules nothing", x.tasks(), 7);
            Due.is("the tasks of the old one stay closed", x.task(0, 2) + x.task(1, 2) + x.task(2, 2), 9);
        });
        Due.holds("(if it waits for an activity, that is scheduled anew as a task, without an event) // behind a signal", () -> {
            Loomkeeper x = Words.keeper("CALL 4", "ADD 1");
            x.start(0, 5);
            x.signal(0, 1, 1);
            x.complete(x.poll(), 8);
            Due.is("reset", x.reset(0, 3), 1);
            Due.is("it waits", Words.where(x, 1), "at 1, value 5, activity 1, kept 1");
            Due.is("complete", x.complete(x.poll(), 2), true);
            Due.is("the new one", Words.history(x, 1), "STARTED 5, SCHEDULED 4, SIGNAL 101, DONE 2, END 31");
        });
        Due.holds("wait for a tick that is now or was: FIRED // that was for the old one", () -> {
            Loomkeeper x = Words.keeper("TIMER 3");
            x.start(0, 5);
            x.tick(3);
            Due.is("reset", x.reset(0, 2), 1);
            Due.is("it waits", Words.where(x, 1), "at 1, value 5, timer 3");
            x.tick(1);
            Due.is("it fires at the next tick", Words.history(x, 1), "STARTED 5, TIMER 3, FIRED 0, END 51");
        });
    }

    private static void signalsBehind() {
        Due.holds("then all SIGNALs that are behind these come to it, as by signal(), one by one", () -> {
            Loomkeeper x = Words.keeper("SHIELD", "AWAIT 1", "CHANCE 9", "AWAIT 1", "CHANCE 9", "OPEN");
            x.start(0, 5);
            x.cancel(0);
            x.signal(0, 2, 3);
            x.signal(0, 1, 4);
            x.signal(0, 1, 5);
            Due.is("the old one", Words.history(x, 0),
                "STARTED 5, ASKED 0, SIGNAL 203, SIGNAL 104, DREW 9, SIGNAL 105, DREW 9, END 93");
            Due.is("reset", x.reset(0, 1), 1);
            Due.is("signals alone, each one ahead of the steps behind it", Words.history(x, 1), "STARTED 5, SIGNAL 203, "
                + "SIGNAL 104, DREW 5, SIGNAL 105, DREW 4, END 41");
            Due.is("reset", x.reset(0, 4), 2);
            Due.is("those behind 4 events", Words.history(x, 2).replaceAll("DREW [0-9]", "DREW"),
                "STARTED 5, ASKED 0, SIGNAL 203, SIGNAL 104, DREW, SIGNAL 105, DREW, END " + x.number(2, 7));
            Due.is("it was asked", x.state(2), 3);
        });
        Due.holds("then all SIGNALs that are behind these come to it // but none to one that has ended by then", () -> {
            Loomkeeper x = Words.keeper("AWAIT 1", "AWAIT 2");
            x.start(0, 5);
            x.signal(0, 1, 1);
            x.signal(0, 3, 1);
            x.signal(0, 2, 1);
            Words.set(x, 0, 1, "END");
            Due.is("reset", x.reset(0, 1), 1);
            Due.is("it ends by the first one", Words.history(x, 1), "STARTED 5, SIGNAL 101, END 11");
        });
        Due.holds("no SIGNAL and no ASKED into one with 90 events or more // by reset", () -> {
            Loomkeeper x = Words.keeper("TIMER 1", "AWAIT 1");
            x.start(0, 5);
            Words.fill(x, 0, 86);
            x.tick(1);
            x.signal(0, 1, 7);
            Due.is("events", x.events(0), 91);
            Words.code(x, 0, "CHANCE 1", "MARK 1", "AWAIT 1");
            Due.is("reset", x.reset(0, 1), 1);
            Due.is("89 events, and the last signal", Words.history(x, 1, 89), "SIGNAL 107, END 71");
            Words.code(x, 0, "CHANCE 1", "MARK 1", "CHANCE 1", "AWAIT 1");
            Due.is("reset", x.reset(0, 1), 2);
            Due.is("90 events without it", Words.history(x, 2, 89), "SIGNAL 9800");
            Due.is("it waits for ever", Words.where(x, 2), "at 4, value " + x.number(2, 3) + ", signal 1, kept 86");
        });
    }

    private static void askedAmongThem() {
        Due.holds("an ASKED that it has gone through asks no child any more // that came with the events of a reset", () -> {
            Loomkeeper x = Words.keeper("CHILD 1");
            Words.code(x, 1, "SHIELD", "AWAIT 1");
            x.start(0, 5);
            x.cancel(0);
            Due.is("reset", x.reset(0, 3), 2);
            Due.is("it is cancelled", Words.history(x, 2), "STARTED 5, CHILD 1, ASKED 0, END 53");
            Due.is("the child was asked once", Words.history(x, 1), "STARTED 5, ASKED 0");
        });
        Due.holds("that are behind these come to it // but no ASKED", () -> {
            Loomkeeper x = Words.keeper("AWAIT 1");
            x.start(0, 5);
            x.signal(0, 2, 2);
            x.cancel(0);
            Due.is("reset", x.reset(0, 1), 1);
            Due.is("it waits", Words.where(x, 1), "at 1, value 5, signal 1, kept 1");
            Due.is("reset", x.reset(0, 3), 2);
            Due.is("it is cancelled", Words.history(x, 2), "STARTED 5, SIGNAL 202, ASKED 0, END 53");
        });
    }

    private static void steps() {
        Due.holds("it has these, and goes on // the steps being counted as in the old one", () -> {
            Loomkeeper x = Words.keeper("CHANCE 9", "JUMP 0");
            x.start(0, 5);
            Due.is("30 of them", x.events(0), 32);
            Due.is("reset", x.reset(0, 31), 1);
            Due.is("the 61st step fails", x.events(1), 32);
            Due.is("reset", x.reset(0, 1), 2);
            Due.is("30 anew", x.events(2), 32);
        });
        Due.holds("it has these, and goes on // events behind it count", () -> {
            Loomkeeper x = Words.keeper("AWAIT 1", "CHANCE 9");
            x.start(0, 5);
            Words.fill(x, 0, 57);
            x.signal(0, 1, 7);
            Due.is("DREW is the 60th", Words.event(x, 0, 59), "DREW 9");
            x.start(0, 5);
            Words.fill(x, 1, 58);
            x.signal(1, 1, 7);
            Due.is("behind 60", Words.event(x, 1, 60), "END 72");
            Due.is("reset", x.reset(1, 60), 2);
            Due.is("behind 60", Words.history(x, 2, 59), "SIGNAL 107, END 72");
        });
    }
}
