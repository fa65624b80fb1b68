/** "Histories" of the Terms: what comes into them, and what goes with the code. */
public final class HistoryEdgesTest {
    public static void main(String[] args) {
        kinds();
        noRoom();
        stepsAndEvents();
        waitsAndEvents();
        marks();
        astray();
        tasksOfOneAstray();
        lost();
        ended();
        ninety();
        longest();
        Due.end();
    }

    private static void kinds() {
        Due.holds("A workflow has a history of events, each of a kind, with a number", () -> {
            Loomkeeper x = Words.keeper("CALL 99", "TIMER 3", "AWAIT 0", "CHILD 1", "START 1", "CHANCE 99", "MARK 99",
                "UNDO 99", "AWAIT 99");
            x.start(0, -7);
            x.complete(x.poll(), -999);
            x.tick(3);
            x.signal(0, 0, 0);
            x.cancel(0);
            x.complete(x.poll(), 4);
            Due.is("all of it", Words.history(x, 0), "STARTED -7, SCHEDULED 99, DONE -999, TIMER 3, FIRED 0, SIGNAL 0, "
                + "CHILD 1, ENDED 1, BEGAN 2, DREW 49, MARKED 99, ASKED 0, UNDOES 99, DONE 4, END 13");
        });
        Due.holds("8 ENDED 10 times the value of the child, and how it ended;", () -> {
            for (int value : new int[] {-999, -1, 0, 1, 999}) {
                String[] codes = {"END", "FAIL", "AWAIT 1"};
                for (int how = 1; how <= 3; how++) {
                    Loomkeeper x = Words.keeper("CHILD 1");
                    Words.code(x, 1, codes[how - 1]);
                    x.start(0, value);
                    x.cancel(1);
                    Due.is("ENDED", Words.event(x, 0, 2), "ENDED " + (10 * value + how));
                    Due.is("the parent ends by it", x.state(0), how == 1 ? 1 : 2);
                    Due.is("its value", x.about(0, 2), value);
                }
            }
        });
        Due.holds("14 BEGAN the number of a START, or of AS_NEW (ahead of END)", () -> {
            Loomkeeper x = Words.keeper("AS_NEW");
            x.start(0, 4);
            Due.is("the first one", Words.history(x, 0), "STARTED 4, BEGAN 1, END 44");
            Due.is("the one ahead of the last one", Words.history(x, 38), "STARTED 4, BEGAN 39, END 44");
        });
    }

    private static void noRoom() {
        String[] steps = {"CHILD 1", "START 1", "AS_NEW"};
        String[] events = {"CHILD ", "BEGAN ", "BEGAN "};
        for (int i = 0; i < 3; i++) {
            String step = steps[i];
            String event = events[i];
            Due.holds("CHILD and BEGAN have -1 if there was no room for a workflow; it fails then. // " + step, () -> {
                for (int ahead = 38; ahead <= 39; ahead++) {
                    Loomkeeper x = Words.keeper("AWAIT 1", step, "AWAIT 2");
                    Words.code(x, 1, "AWAIT 0");
                    for (int w = 0; w < ahead; w++) {
                        x.start(1, 0);
                    }
                    x.start(0, 5);
                    x.signal(ahead, 1, 6);
                    Due.is("workflows", x.workflows(), 40);
                    Due.is("with " + ahead, Words.event(x, ahead, 2), event + (ahead == 38 ? 39 : -1));
                    if (ahead == 39) {
                        Due.is("it fails", Words.history(x, 39, 3), "END 62");
                        Due.is("it fails", Words.where(x, 39), "at 2, value 6");
                        x.crash();
                        Due.is("found again", Words.where(x, 39), "at 2, value 6");
                    }
                }
            });
        }
    }

    private static void stepsAndEvents() {
        String[] steps = {"CALL 3", "TIMER 3", "CHILD 3", "START 3", "CHANCE 3", "MARK 3", "SELECT 9 3"};
        for (String made : steps) {
            Due.holds("a step that makes an event takes the next one, which has to be of that kind // " + made, () -> {
                Loomkeeper x = Words.keeper(made, "AWAIT 5");
                Words.code(x, 3, "AWAIT 1");
                x.start(0, 0);
                for (String other : steps) {
                    // A MARK takes nothing then; it is the AWAIT behind it that the event does not come to.
                    boolean goes = made.equals(other) || isTimer(made) && isTimer(other);
                    Due.is(made + " replayed as " + other, Words.check(x, 0, 0, other), goes ? 0 : 1);
                }
                Due.is(made + " replayed without", Words.check(x, 0, 0, "ADD 1"), 1);
                Due.is(made + " replayed as END", Words.check(x, 0, 0, "END"), 1);
                Due.is(made + " replayed as FAIL", Words.check(x, 0, 0, "FAIL"), 1);
            });
        }
        Due.holds("and with that number // CALL, MARK and UNDOES", () -> {
            Loomkeeper x = Words.keeper("CALL 3", "AWAIT 5");
            Words.code(x, 1, "MARK 3", "AWAIT 5");
            Words.code(x, 2, "UNDO 3", "UNDO 4", "FAIL");
            for (int i = 0; i < 3; i++) {
                x.start(i, 0);
            }
            Due.is("another CALL", Words.check(x, 0, 0, "CALL 2"), 1);
            Due.is("another MARK", Words.check(x, 1, 0, "MARK 2"), 1);
            Due.is("another UNDO", Words.check(x, 2, 1, "UNDO 5"), 1);
            Due.is("another UNDO that is still on the pile", Words.check(x, 2, 0, "UNDO 5"), 0);
            Due.is("none to undo", Words.check(x, 2, 1, "FAIL"), 1);
        });
        Due.holds("and with that number // END", () -> {
            Loomkeeper x = Words.keeper("ADD 3");
            x.start(0, 0);
            Words.set(x, 0, 0, "ADD 4");
            Due.is("another value", Words.where(x, 0), "astray");
            Words.set(x, 0, 0, "ADD 3");
            Due.is("the same", Words.where(x, 0), "at 2, value 3");
            Words.set(x, 0, 1, "FAIL");
            Due.is("the same value, failed", Words.where(x, 0), "astray");
            Due.is("how it ended, whatever the code is", x.state(0), 1);
        });
        Due.holds("(with any number, which counts then, for TIMER, CHILD, DREW and BEGAN)", () -> {
            Loomkeeper x = Words.keeper("TIMER 3", "CHANCE 99", "START 3", "CHILD 3");
            for (int i = 2; i < 5; i++) {
                Words.code(x, i, "AWAIT 1");
            }
            x.start(0, 0);
            Due.is("set", Words.set(x, 0, 0, "TIMER 50"), 0);
            Due.is("the tick counts", Words.where(x, 0), "at 1, value 0, timer 3");
            x.tick(3);
            Words.set(x, 0, 3, "AWAIT 6");
            Due.is("CHILD without its step", x.state(0), 5);
            Due.is("set", Words.set(x, 0, 3, "CHILD 4"), 0);
            Due.is("the child counts", Words.where(x, 0), "at 4, value 1, child 2");
            Due.is("its program", x.about(2, 0), 3);
            Due.is("set", Words.set(x, 0, 2, "START 2"), 0);
            Due.is("the one that began counts", Words.where(x, 0), "at 4, value 1, child 2");
            Due.is("its program", x.about(1, 0), 3);
            Due.is("another CHANCE", Words.check(x, 0, 1, "CHANCE 2"), 0);
        });
        Due.holds("(with any number, which counts then, for TIMER, CHILD, DREW and BEGAN) // DREW", () -> {
            Loomkeeper x = Words.keeper("CHANCE 99", "AWAIT 1");
            x.start(0, 0);
            Words.set(x, 0, 0, "CHANCE 1");
            Due.is("more than is drawn by now", Words.where(x, 0), "at 2, value 49, signal 1");
        });
    }

    private static boolean isTimer(String step) {
        return step.startsWith("TIMER") || step.startsWith("SELECT");
    }

    private static void waitsAndEvents() {
        Due.holds("which has to be one that it waits for // DONE", () -> comesTooLate("CALL 1", x -> x.complete(x.poll(), 5)));
        Due.holds("which has to be one that it waits for // FAILED", () -> comesTooLate("CALL 1", x -> {
            for (int i = 0; i < 3; i++) {
                x.fail(x.poll());
                x.tick(4);
            }
        }));
        Due.holds("which has to be one that it waits for // ENDED", () -> comesTooLate("CHILD 1", x -> x.signal(1, 1, 5)));
        Due.holds("which has to be one that it waits for // FIRED of a TIMER", () -> comesTooLate("TIMER 2", x -> x.tick(2)));
        Due.holds("which has to be one that it waits for // FIRED of a SELECT", () -> {
            comesTooLate("SELECT 8 2", x -> x.tick(2));
            Loomkeeper x = Words.keeper("TIMER 3", "AWAIT 9");
            x.start(0, 0);
            x.signal(0, 1, 5);
            Due.is("a SELECT takes the signal", Words.check(x, 0, 0, "SELECT 1 3"), 0);
            x.tick(3);
            Due.is("and FIRED comes when it waits for 9", Words.check(x, 0, 0, "SELECT 1 3"), 1);
            Due.is("a SELECT of another signal", Words.check(x, 0, 0, "SELECT 2 3"), 0);
        });
        Due.holds("which has to be one that it waits for // an AWAIT waits for signals alone", () -> {
            Loomkeeper x = Words.keeper("SHIELD", "AWAIT 1", "AWAIT 2");
            x.start(0, 0);
            x.signal(0, 1, 5);
            x.cancel(0);
            Due.is("SIGNAL and ASKED", Words.where(x, 0), "at 3, value 5, signal 2, shield");
            Due.is("another AWAIT", Words.check(x, 0, 1, "AWAIT 7"), 0);
            Due.is("a step ahead of it that ends it", Words.check(x, 0, 1, "END"), 1);
            Due.is("a step that makes an event", Words.check(x, 0, 1, "CALL 1"), 1);
        });
    }

    private interface Push {
        void on(Loomkeeper x);
    }

    /** What comes to a workflow that was asked in a shield does not go with the code without that shield. */
    private static void comesTooLate(String step, Push push) {
        Loomkeeper x = Words.keeper("SHIELD", "UNDO 8", step, "AWAIT 9");
        Words.code(x, 1, "AWAIT 1");
        x.start(0, 0);
        Due.is("ahead of all", Words.check(x, 0, 0, "OPEN"), 0);
        x.cancel(0);
        Due.is("ahead of what it waits for", Words.check(x, 0, 0, "OPEN"), 0);
        push.on(x);
        Due.is("behind it", Words.check(x, 0, 0, "OPEN"), 1);
        Due.is("with the shield", Words.check(x, 0, 0, "SHIELD"), 0);
    }

    private static void marks() {
        Due.holds("MARK takes the next one, if that is MARKED with its number", () -> {
            Loomkeeper x = Words.keeper("MARK 0", "BRANCH 9", "MARK 99", "AWAIT 1");
            x.start(0, 5);
            Due.is("both are made", Words.history(x, 0), "STARTED 5, MARKED 0, MARKED 99");
            Due.is("the value is 1", Words.where(x, 0), "at 4, value 1, signal 1");
            Due.is("not with its number", Words.check(x, 0, 0, "MARK 99"), 1);
            Due.is("not with its number", Words.check(x, 0, 2, "MARK 0"), 1);
        });
        Due.holds("if there is another one, the value is 0 and nothing is taken", () -> {
            Loomkeeper x = Words.keeper("ADD 0", "CALL 1");
            x.start(0, 5);
            Due.is("a MARK ahead of the CALL", Words.set(x, 0, 0, "MARK 4"), 0);
            Due.is("the value is 0", Words.where(x, 0), "at 2, value 0, activity 0");
            Due.is("nothing is taken, and none is made", Words.history(x, 0), "STARTED 5, SCHEDULED 1");
            Loomkeeper y = Words.keeper("ADD 0", "MARK 3", "AWAIT 1");
            y.start(0, 5);
            Due.is("a MARK ahead of another one", Words.set(y, 0, 0, "MARK 4"), 0);
            Due.is("the value is 1 by the second one", Words.where(y, 0), "at 3, value 1, signal 1");
            Loomkeeper z = Words.keeper("ADD 0", "FAIL");
            z.start(0, 0);
            Words.set(z, 0, 0, "MARK 4");
            Due.is("a MARK ahead of END", Words.where(z, 0), "at 2, value 0");
        });
        Due.holds("if there is another one // there is none: it is made", () -> {
            Loomkeeper x = Words.keeper("AWAIT 1");
            x.start(0, 5);
            Due.is("check makes none", Words.check(x, 0, 0, "MARK 4"), 0);
            Due.is("check makes none", x.events(0), 1);
            Words.set(x, 0, 1, "AWAIT 2");
            Due.is("set does", Words.set(x, 0, 0, "MARK 4"), 0);
            Due.is("set does", Words.history(x, 0), "STARTED 5, MARKED 4");
            Due.is("its value", Words.where(x, 0), "at 2, value 1, signal 2");
        });
        Due.holds("or 0 for a history that was made without it // behind a signal that came while it was astray", () -> {
            Loomkeeper x = Words.keeper("AWAIT 1", "MARK 4", "AWAIT 2");
            x.start(0, 5);
            Words.set(x, 0, 0, "CALL 1");
            Due.is("still with the code", Words.history(x, 0), "STARTED 5, SCHEDULED 1");
            Words.set(x, 0, 0, "CALL 2");
            x.signal(0, 1, 1);
            x.signal(0, 2, 2);
            Due.is("astray", x.state(0), 5);
            Due.is("it goes again", Words.set(x, 0, 0, "CALL 1"), 0);
            Due.is("both are kept", Words.where(x, 0), "at 1, value 5, activity 0, kept 2");
            x.complete(x.poll(), 3);
            Due.is("the MARK is made behind them", Words.history(x, 0, 2), "SIGNAL 101, SIGNAL 202, DONE 3, MARKED 4, END 21");
        });
    }

    private static void astray() {
        Due.holds("A workflow whose history does not go with the code does nothing, until it goes with it again", () -> {
            Loomkeeper x = Words.keeper("CALL 1", "AWAIT 2", "CALL 3");
            x.start(0, 5);
            x.complete(x.poll(), 6);
            Due.is("set", Words.set(x, 0, 0, "CALL 9"), 1);
            x.signal(0, 2, 7);
            x.tick(50);
            x.crash();
            Due.is("it does nothing", Words.history(x, 0), "STARTED 5, SCHEDULED 1, DONE 6, SIGNAL 207");
            Due.is("other steps", Words.set(x, 0, 5, "CALL 9"), 1);
            Due.is("where it is cannot be told", Words.where(x, 0), "astray");
            Due.is("set", Words.set(x, 0, 0, "CALL 1"), 0);
            Due.is("it goes on by that call", Words.history(x, 0, 3), "SIGNAL 207, SCHEDULED 3");
            Due.is("it goes on by that call", Words.where(x, 0), "at 3, value 7, activity 1");
        });
        Due.holds("SIGNAL and ASKED come into its history all the same", () -> {
            Loomkeeper x = Words.keeper("CALL 1");
            x.start(0, 5);
            Words.set(x, 0, 0, "CALL 9");
            Due.is("a signal", x.signal(0, 3, 4), true);
            Due.is("cancel", x.cancel(0), true);
            Due.is("cancel", x.cancel(0), true);
            Due.is("all of them", Words.history(x, 0), "STARTED 5, SCHEDULED 1, SIGNAL 304, ASKED 0, ASKED 0");
            // END is made behind the first ASKED, so the second one is something else.
            Due.is("the second one does not go with the code", Words.set(x, 0, 0, "CALL 1"), 1);
            Due.is("state", x.state(0), 5);
        });
        Due.holds("SIGNAL and ASKED come into its history all the same // but not into 90 events", () -> {
            Loomkeeper x = Words.keeper("CALL 1");
            x.start(0, 5);
            Words.set(x, 0, 0, "CALL 9");
            Due.is("signals", Words.fill(x, 0, 87), true);
            Due.is("cancel into 89", x.cancel(0), true);
            Due.is("cancel into 90", x.cancel(0), false);
            Due.is("signal into 90", x.signal(0, 1, 1), false);
            Words.set(x, 0, 0, "CALL 1");
            Due.is("it is cancelled then", Words.history(x, 0, 88), "SIGNAL 9800, ASKED 0, END 53");
        });
    }

    private static void tasksOfOneAstray() {
        Due.holds("its tasks stand still: they are not polled", () -> {
            Loomkeeper x = Words.keeper("CALL 1");
            x.start(0, 5);
            Words.set(x, 0, 0, "CALL 9");
            Due.is("none is polled", x.poll(), -1);
            Due.is("as it was", Words.task(x, 0), "of 0, activity 1, ready, tries 0, token 0, until 0");
            Words.set(x, 0, 0, "CALL 1");
            Due.is("now it is, by the first token", x.poll(), 1);
        });
        Due.holds("nothing happens by their tokens, as by tokens that there are not", () -> {
            Loomkeeper x = Words.keeper("CALL 1", "AWAIT 1");
            x.start(0, 5);
            x.poll();
            Words.set(x, 0, 0, "CALL 9");
            x.tick(3);
            Due.is("complete", x.complete(1, 5), false);
            Due.is("fail", x.fail(1), false);
            Due.is("beat", x.beat(1), false);
            Due.throwsArgument("complete with 1000", () -> x.complete(1, 1000) ? 1 : 0);
            Due.is("as it was", Words.task(x, 0), "of 0, activity 1, runs, tries 0, token 1, until 6");
            Words.set(x, 0, 0, "CALL 1");
            Due.is("beat", x.beat(1), true);
            Due.is("complete", x.complete(1, 5), true);
            Due.is("history", Words.history(x, 0), "STARTED 5, SCHEDULED 1, DONE 5");
        });
        Due.holds("or as ticks pass // one that runs, and one that rests", () -> {
            Loomkeeper x = Words.keeper("CALL 1");
            x.start(0, 5);
            x.start(0, 5);
            x.fail(x.poll());
            x.poll();
            x.tick(1);
            Words.set(x, 0, 0, "CALL 9");
            x.tick(49);
            Due.is("it rests", Words.task(x, 0), "of 0, activity 1, rests, tries 1, token 1, until 2");
            Due.is("it runs", Words.task(x, 1), "of 1, activity 1, runs, tries 0, token 2, until 6");
            Words.set(x, 0, 0, "CALL 1");
            Due.is("a result is still taken", x.complete(2, 5), true);
            x.tick(1);
            Due.is("until earlier", Words.task(x, 0), "of 0, activity 1, ready, tries 1, token 1, until 0");
        });
        Due.holds("those that run or rest until now, or until earlier", () -> {
            Loomkeeper x = Words.keeper("CALL 1");
            x.start(0, 5);
            x.poll();
            Words.set(x, 0, 0, "CALL 9");
            x.tick(50);
            Words.set(x, 0, 0, "CALL 1");
            Due.is("not by set", Words.task(x, 0), "of 0, activity 1, runs, tries 0, token 1, until 6");
            x.tick(1);
            Due.is("it rests from now on", Words.task(x, 0), "of 0, activity 1, rests, tries 1, token 1, until 53");
        });
    }

    private static void lost() {
        Due.holds("what comes only to one that waits for it is lost // ENDED", () -> {
            Loomkeeper x = Words.keeper("CHILD 1");
            Words.code(x, 1, "AWAIT 1");
            x.start(0, 5);
            Words.set(x, 0, 0, "CHANCE 1");
            x.signal(1, 1, 3);
            Due.is("the child has ended", x.state(1), 1);
            Words.set(x, 0, 0, "CHILD 1");
            Due.is("nothing came", Words.history(x, 0), "STARTED 5, CHILD 1");
            Due.is("it waits for ever", Words.where(x, 0), "at 1, value 5, child 1");
        });
        Due.holds("those that go with the code, and wait for a tick that is now or was: FIRED", () -> {
            Loomkeeper x = Words.keeper("TIMER 3", "AWAIT 1");
            x.start(0, 5);
            Words.set(x, 0, 0, "CHANCE 1");
            x.tick(3);
            Due.is("not to one astray", x.events(0), 2);
            Words.set(x, 0, 0, "TIMER 3");
            Due.is("not by set", x.events(0), 2);
            x.tick(1);
            Due.is("at the next tick", Words.history(x, 0), "STARTED 5, TIMER 3, FIRED 0");
        });
    }

    private static void ended() {
        Due.holds("Nothing comes into that of one that has ended", () -> {
            Loomkeeper x = Words.keeper("UNDO 1", "SELECT 1 3", "BRANCH 9", "CALL 2");
            Words.code(x, 1, "CALL 1");
            x.start(0, 5);
            x.start(1, 5);
            x.cancel(0);
            x.complete(x.poll(), 0);
            x.complete(x.poll(), 0);
            String before = Words.all(x);
            for (int w = 0; w < 2; w++) {
                Due.is("it has ended", x.state(w), w == 0 ? 3 : 1);
                Due.is("signal", x.signal(w, 1, 1), false);
                Due.is("cancel", x.cancel(w), false);
            }
            for (int t = 1; t <= 3; t++) {
                Due.is("complete", x.complete(t, 1), false);
                Due.is("fail", x.fail(t), false);
                Due.is("beat", x.beat(t), false);
            }
            Due.is("crash", x.crash(), 0);
            Due.is("all is as it was", Words.all(x), before);
            x.tick(50);
            Due.is("events", 100 * x.events(0) + x.events(1), 604);
        });
        Due.holds("Nothing comes into that of one that has ended // and its code is another", () -> {
            Loomkeeper x = Words.keeper("ADD 1");
            x.start(0, 5);
            Due.is("set counts those alone that have not ended", Words.set(x, 0, 0, "CALL 1"), 0);
            Due.is("state", x.state(0), 1);
            Due.is("signal", x.signal(0, 1, 1), false);
            Due.is("cancel", x.cancel(0), false);
            Due.is("crash", x.crash(), 0);
            Due.is("history", Words.history(x, 0), "STARTED 5, END 61");
            Due.is("where it is cannot be told", Words.where(x, 0), "astray");
            Due.is("no task", x.tasks(), 0);
        });
    }

    /** A workflow that waits by the step, with so many events. */
    private static Loomkeeper with(int events, String step) {
        Loomkeeper x = Words.keeper(step, "AWAIT 7");
        Words.code(x, 1, "AWAIT 1");
        x.start(0, 5);
        Due.is("signals", Words.fill(x, 0, events - x.events(0)), true);
        Due.is("events", x.events(0), events);
        return x;
    }

    private static void ninety() {
        Due.holds("no SIGNAL and no ASKED into one with 90 events or more // SIGNAL", () -> {
            Loomkeeper x = with(89, "AWAIT 1");
            Due.is("into 89", x.signal(0, 98, 3), true);
            Due.is("into 90", x.signal(0, 98, 3), false);
            Due.is("into 90, one that is waited for", x.signal(0, 1, 3), false);
            Due.is("events", x.events(0), 90);
            Due.is("it waits for ever", Words.where(x, 0), "at 1, value 5, signal 1, kept 89");
        });
        Due.holds("no SIGNAL and no ASKED into one with 90 events or more // ASKED", () -> {
            Loomkeeper x = with(89, "AWAIT 1");
            Due.is("into 89", x.cancel(0), true);
            Due.is("it ends", Words.history(x, 0, 88), "SIGNAL 9800, ASKED 0, END 53");
            Loomkeeper y = with(90, "AWAIT 1");
            Due.is("into 90", y.cancel(0), false);
            Due.is("it waits for ever", y.state(0), 0);
        });
        Due.holds("DONE, FAILED, FIRED and ENDED come only to one that waits for them // into 90: DONE", () -> {
            Loomkeeper x = with(90, "CALL 1");
            Due.is("complete", x.complete(x.poll(), 3), true);
            Due.is("the last one", Words.history(x, 0, 90), "DONE 3");
            Due.is("signal into 91", x.signal(0, 7, 3), false);
            Due.is("cancel into 91", x.cancel(0), false);
        });
        Due.holds("DONE, FAILED, FIRED and ENDED come only to one that waits for them // into 90: FAILED", () -> {
            Loomkeeper x = with(90, "CALL 1");
            x.fail(x.poll());
            x.tick(2);
            x.fail(x.poll());
            x.tick(4);
            x.poll();
            x.tick(6);
            Due.is("the last ones", Words.history(x, 0, 90), "FAILED 0, END 52");
        });
        Due.holds("DONE, FAILED, FIRED and ENDED come only to one that waits for them // into 90: FIRED", () -> {
            for (String step : new String[] {"TIMER 1", "SELECT 1 1"}) {
                Loomkeeper x = with(90, step);
                x.tick(1);
                Due.is("the last one", Words.history(x, 0, 90), "FIRED 0");
            }
        });
        Due.holds("DONE, FAILED, FIRED and ENDED come only to one that waits for them // into 90: ENDED", () -> {
            Loomkeeper x = with(90, "CHILD 1");
            x.signal(1, 1, 3);
            Due.is("the last one", Words.history(x, 0, 90), "ENDED 31");
            Due.is("its value", Words.where(x, 0), "at 2, value 3, signal 7, kept 88");
        });
    }

    private static void longest() {
        Due.holds("An event is never changed; // of the longest history that there can be", () -> {
            Loomkeeper x = Words.keeper();
            for (int i = 0; i < 18; i++) {
                x.set(0, i, Due.UNDO, i, 0);
            }
            Words.set(x, 0, 18, "CALL 50");
            Words.set(x, 0, 19, "FAIL");
            Words.code(x, 0, "UNDO 60", "UNDO 61", "UNDO 62");
            x.start(0, -5);
            Words.fill(x, 0, 88);
            String start = Words.history(x, 0);
            x.complete(x.poll(), 7);
            for (int i = 0; i < 18; i++) {
                x.complete(x.poll(), -7);
            }
            Due.is("events: 90, DONE, 18 undone, END", x.events(0), 90 + 1 + 36 + 1);
            Due.is("the first ones", Words.history(x, 0).substring(0, start.length()), start);
            Due.is("the last ones", Words.history(x, 0, 122), "DONE -7, UNDOES 61, DONE -7, UNDOES 60, DONE -7, END 72");
            Due.throwsIndex("behind the last one", () -> x.kind(0, 128));
            Due.throwsIndex("behind the last one", () -> x.number(0, 128));
            Due.is("reset to all but END", x.reset(0, 127), 1);
            Due.is("the same", Words.history(x, 1), Words.history(x, 0));
            Due.is("reset to the DONE", x.reset(0, 91), 2);
            Due.is("it undoes anew", Words.history(x, 2, 90), "DONE 7, UNDOES 17");
        });
        Due.holds("An event is never changed; // of one with twenty to undo behind 91", () -> {
            Loomkeeper x = Words.keeper("AWAIT 1", "BRANCH 4", "UNDO 9", "JUMP 0", "CALL 2", "FAIL");
            x.start(0, -5);
            for (int i = 20; i >= 0; i--) {
                x.signal(0, 1, i);
            }
            Words.fill(x, 0, 67);
            Due.is("it waits", Words.where(x, 0), "at 5, value 0, activity 0, pile 20, kept 67");
            Due.is("events", x.events(0), 90);
            for (int i = 0; i < 21; i++) {
                x.complete(x.poll(), 7);
            }
            Due.is("events", x.events(0), 132);
            Due.is("the last ones", Words.history(x, 0, 129), "UNDOES 9, DONE 7, END 72");
            Due.is("how it ended", x.state(0), 2);
            Due.is("reset to all but END", x.reset(0, 131), 1);
            Due.is("the same", Words.history(x, 1), Words.history(x, 0));
        });
    }
}
