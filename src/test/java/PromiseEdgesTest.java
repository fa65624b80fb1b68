/** Promises 1 to 24, one after the other: their edges that no other test of this stage has. */
public final class PromiseEdgesTest {
    public static void main(String[] args) {
        newObject();
        set();
        check();
        startSignalCancel();
        crash();
        workers();
        counts();
        about();
        tellingChangesNothing();
        Due.end();
    }

    private static void newObject() {
        Due.holds("All steps END, no workflows; now is 0.", () -> {
            Loomkeeper x = new Loomkeeper();
            Due.is("all", Words.all(x), "now 0\n");
            Due.is("workflows", x.workflows(), 0);
            Due.is("tasks", x.tasks(), 0);
            Due.is("crash", x.crash(), 0);
            Due.is("poll", x.poll(), -1);
            for (int i = 0; i < 120; i++) {
                // Each other step is JUMPed to, and is an END as well.
                Loomkeeper y = new Loomkeeper();
                y.set(i / 20, 0, Due.JUMP, i % 20, 0);
                y.start(i / 20, 7);
                Due.is("step " + i, Words.history(y, 0), i % 20 == 0 ? "STARTED 7, END 72" : "STARTED 7, END 71");
                Due.is("step " + i, y.about(0, 1), i % 20 == 0 ? 1 : (i % 20 + 1) % 20);
            }
        });
    }

    private static void set() {
        Due.holds("Then the workflows of the program, by rising numbers, that have not ended and go with the code, go on.", () -> {
            Loomkeeper x = Words.keeper("AWAIT 1");
            Words.code(x, 1, "AWAIT 1");
            Words.code(x, 5, "AWAIT 2", "CHILD 0");
            for (int program : new int[] {0, 1, 0, 5, 0, 0}) {
                x.start(program, 3);
            }
            x.cancel(2);
            x.signal(4, 9, 9);
            Due.is("set", Words.set(x, 0, 0, "CHANCE 99"), 1);
            Due.is("the first one draws first", Words.history(x, 0), "STARTED 3, DREW 49, END 491");
            Due.is("another program", Words.history(x, 1), "STARTED 3");
            Due.is("one that has ended", Words.history(x, 2), "STARTED 3, ASKED 0, END 33");
            Due.is("another program", Words.history(x, 3), "STARTED 3");
            Due.is("one astray", Words.history(x, 4), "STARTED 3, SIGNAL 909");
            Due.is("the last one draws next", Words.history(x, 5), "STARTED 3, DREW 49, END 491");
        });
        Due.holds("Then the workflows of the program, by rising numbers // a parent of another program goes on as well", () -> {
            Loomkeeper x = Words.keeper("CHILD 1", "CALL 2");
            Words.code(x, 1, "AWAIT 1");
            x.start(0, 3);
            x.start(1, 4);
            Due.is("set", Words.set(x, 1, 0, "TAKE 1"), 0);
            Due.is("the child has ended", Words.history(x, 1), "STARTED 3, END 21");
            Due.is("its parent", Words.history(x, 0), "STARTED 3, CHILD 1, ENDED 21, SCHEDULED 2");
            Due.is("the other one", Words.history(x, 2), "STARTED 4, END 31");
        });
        Due.holds("Sets a step. // as it was", () -> {
            Loomkeeper x = Words.keeper("CALL 1", "TIMER 5");
            x.start(0, 3);
            String before = Words.all(x);
            Due.is("set", Words.set(x, 0, 0, "CALL 1"), 0);
            Due.is("set of one behind it", Words.set(x, 0, 1, "TIMER 5"), 0);
            Due.is("all is as it was", Words.all(x), before);
        });
        Due.holds("Sets a step. // with each of its numbers", () -> {
            Loomkeeper x = Words.keeper("SELECT 98 99");
            x.start(0, 3);
            Due.is("both numbers", Words.history(x, 0) + ", " + Words.where(x, 0),
                "STARTED 3, TIMER 99, at 1, value 3, signal or ticks 98");
            Words.set(x, 0, 0, "SELECT 97 0");
            Due.is("both numbers", Words.history(x, 0) + ", " + Words.where(x, 0),
                "STARTED 3, TIMER 99, at 1, value 3, signal or ticks 97");
        });
        Due.holds("When all events are taken, it goes on: steps make events. // by other code", () -> {
            Loomkeeper x = Words.keeper("AWAIT 1", "UNDO 2", "FAIL");
            x.start(0, 3);
            Due.is("set", Words.set(x, 0, 0, "SHIELD"), 0);
            Due.is("it does not wait for the signal", Words.history(x, 0), "STARTED 3, UNDOES 2");
            Due.is("where it is", Words.where(x, 0), "at 3, value 3, undoing 0, shield, will end 2");
        });
        Due.holds("If something else comes, or comes behind END, the history does not go with the code. // END", () -> {
            Loomkeeper x = Words.keeper("AWAIT 1", "AWAIT 2");
            x.start(0, 3);
            x.signal(0, 1, 7);
            Due.is("END ahead of SIGNAL", Words.check(x, 0, 0, "END"), 1);
            Due.is("END behind the last event", Words.check(x, 0, 1, "END"), 0);
            Due.is("set", Words.set(x, 0, 0, "END"), 1);
            Due.is("nothing is made", Words.history(x, 0), "STARTED 3, SIGNAL 107");
            Due.is("state", x.state(0), 5);
        });
    }

    private static void check() {
        Due.holds("would not go with the code, if a step was set; nothing is set.", () -> {
            Loomkeeper x = Words.keeper("CALL 1", "TIMER 2", "AWAIT 3");
            for (int i = 0; i < 3; i++) {
                x.start(0, i);
            }
            x.complete(x.poll(), 5);
            String before = Words.all(x);
            for (int step = 0; step < 20; step++) {
                for (int kind = 0; kind < 18; kind++) {
                    int due = step == 0 && kind != Due.CALL ? 3
                        : step == 1 && kind != Due.TIMER && kind != Due.SELECT ? 1 : 0;
                    // Steps that make no event ahead of it leave the CALL or the TIMER out.
                    Due.is("check of " + step + " " + kind, x.check(0, step, kind, 1, 1), due);
                }
            }
            Due.is("all is as it was", Words.all(x), before);
            x.tick(2);
            Due.is("the code is as it was", Words.where(x, 0), "at 3, value 5, signal 3");
        });
        Due.holds("would not go with the code, if a step was set // and goes with it by that alone", () -> {
            Loomkeeper x = Words.keeper("CALL 1");
            x.start(0, 0);
            Words.set(x, 0, 0, "CALL 2");
            Due.is("with the step that was", Words.check(x, 0, 0, "CALL 1"), 0);
            Due.is("still astray", x.state(0), 5);
            Due.is("with another step", Words.check(x, 0, 1, "CALL 1"), 1);
        });
        Due.holds("would not go with the code, if a step was set // none of other programs", () -> {
            Loomkeeper x = Words.keeper("CALL 1");
            x.start(0, 0);
            for (int program = 1; program < 6; program++) {
                Due.is("check", Words.check(x, program, 0, "CALL 2"), 0);
            }
        });
        Due.holds("To replay a history by the code as it is: it begins with the input, and makes steps // for ever", () -> {
            Loomkeeper x = Words.keeper("AWAIT 1");
            x.start(0, 0);
            Due.is("the 61st step fails, and there is nothing else", Words.check(x, 0, 0, "JUMP 0"), 0);
            x.signal(0, 2, 2);
            Due.is("the 61st step fails ahead of the signal", Words.check(x, 0, 0, "JUMP 0"), 1);
            Due.is("nothing is made", x.events(0), 2);
        });
    }

    private static void startSignalCancel() {
        Due.holds("Starts a workflow without a parent.", () -> {
            Loomkeeper x = Words.keeper("CHILD 1", "AWAIT 1");
            Due.is("its number", x.start(0, 999), 0);
            Due.is("behind those that it started", x.start(0, -999), 2);
            Due.is("workflows", x.workflows(), 4);
            Due.is("no parents", x.parent(0) + x.parent(2), -2);
            Due.is("children", Words.history(x, 1) + ", " + Words.history(x, 3), "STARTED 999, END 9991, STARTED -999, END -9989");
        });
        Due.holds("Returns whether it came into the history. // to one that waits, is astray, or has ended", () -> {
            Loomkeeper x = Words.keeper("CALL 1");
            Words.code(x, 1, "AWAIT 1");
            for (int program = 0; program < 3; program++) {
                x.start(program, 0);
            }
            Words.set(x, 0, 0, "CALL 2");
            int[] states = {5, 0, 1};
            for (int w = 0; w < 3; w++) {
                Due.is("state", x.state(w), states[w]);
                int events = x.events(w);
                Due.is("signal", x.signal(w, 99, 99), w < 2);
                Due.is("events", x.events(w), w < 2 ? events + 1 : events);
                Due.is("the last one", Words.event(x, w, x.events(w) - 1), w < 2 ? "SIGNAL 9999" : "END 1");
            }
        });
        Due.holds("Returns whether that came into the history. // to one that waits, undoes, is astray, or has ended", () -> {
            Loomkeeper x = Words.keeper("CALL 1");
            Words.code(x, 1, "UNDO 1", "AWAIT 1");
            for (int program = 0; program < 3; program++) {
                x.start(program, 0);
            }
            Words.set(x, 0, 0, "CALL 2");
            Due.is("one astray", x.cancel(0), true);
            Due.is("one that waits", x.cancel(1), true);
            Due.is("one that undoes", x.cancel(1), true);
            Due.is("one that has ended", x.cancel(2), false);
            Due.is("histories", Words.history(x, 0) + "; " + Words.history(x, 1) + "; " + Words.history(x, 2),
                "STARTED 0, SCHEDULED 1, ASKED 0; STARTED 0, ASKED 0, UNDOES 1, ASKED 0; STARTED 0, END 1");
        });
    }

    /** Each kind of wait: workflows 0 to 11. */
    private static Loomkeeper waiting() {
        Loomkeeper x = Words.keeper("CHANCE 99", "CALL 1", "TIMER 9", "MARK 1", "SELECT 3 9");
        Words.code(x, 1, "UNDO 1", "SHIELD", "AWAIT 1", "OPEN", "AWAIT 4");
        Words.code(x, 2, "CHILD 1", "UNDO 2", "CHILD 1");
        Words.code(x, 3, "AWAIT 1", "AS_NEW");
        Words.code(x, 4, "START 3", "CALL 9");
        for (int program : new int[] {0, 0, 0, 1, 2, 3, 4, 4, 4}) {
            x.start(program, program);
        }
        x.poll();
        x.poll();
        x.fail(2);
        x.poll();
        x.cancel(3);
        x.signal(6, 1, 1);
        x.complete(1, 4);
        Words.set(x, 4, 0, "START 2");
        Words.set(x, 4, 1, "CALL 8");
        return x;
    }

    private static void crash() {
        Due.holds("where workflows are is forgotten, and found by their histories again when it is wanted", () -> {
            Loomkeeper x = waiting();
            String before = Words.all(x);
            for (int i = 0; i < 3; i++) {
                Due.is("crash", x.crash(), waiting().crash());
                Due.is("all is as it was", Words.all(x), before);
            }
        });
        Due.holds("what a program saw it sees again; whatever crashes, each workflow goes on as if nothing had.", () -> {
            Loomkeeper x = waiting();
            Loomkeeper y = waiting();
            for (int i = 0; i < 60; i++) {
                Due.is("crash", x.crash(), y.crash());
                x.crash();
                for (Loomkeeper z : new Loomkeeper[] {x, y}) {
                    go(z, i);
                }
                Due.is("all behind " + i, Words.all(x), Words.all(y));
            }
        });
    }

    private static void go(Loomkeeper x, int i) {
        int w = i * 5 % x.workflows();
        if (i % 4 == 0) {
            x.signal(w, i % 3 == 0 ? 4 : 1, i % 5);
        } else if (i % 4 == 1) {
            x.complete(x.poll(), i);
        } else if (i % 4 == 2) {
            x.tick(1 + i % 5);
        } else if (i == 31) {
            Words.set(x, 4, 1, "CALL 9");
        } else if (i % 12 == 3) {
            x.cancel(w);
        } else {
            x.fail(x.poll());
        }
    }

    private static void workers() {
        Due.holds("Returns whether the token is that of a task that runs. // ready, running, resting, closed", () -> {
            for (int how = 0; how < 4; how++) {
                for (int call = 0; call < 3; call++) {
                    Loomkeeper x = Words.keeper("CALL 1");
                    x.start(0, 0);
                    x.poll();
                    if (how == 0 || how == 2) {
                        x.fail(1);
                        x.tick(how == 0 ? 2 : 1);
                    } else if (how == 3) {
                        x.cancel(0);
                    }
                    Due.is("how it is", x.task(0, 2), how);
                    String before = Words.all(x);
                    boolean is = call == 0 ? x.complete(1, 0) : call == 1 ? x.fail(1) : x.beat(1);
                    Due.is("call " + call + " of one that is " + how, is, how == 1);
                    Due.is("something happens", !Words.all(x).equals(before), how == 1 && call < 2);
                }
            }
        });
        Due.holds("Throws `IllegalArgumentException` if result is out of range // nothing is completed", () -> {
            Loomkeeper x = Words.keeper("CALL 1");
            x.start(0, 0);
            int token = x.poll();
            for (int result : new int[] {-1000, 1000, Integer.MIN_VALUE, Integer.MAX_VALUE}) {
                Due.throwsArgument("complete", () -> x.complete(token, result) ? 1 : 0);
                Due.throwsArgument("complete of no task", () -> x.complete(token + 1, result) ? 1 : 0);
            }
            Due.is("it runs", x.task(0, 2), 1);
            Due.is("complete", x.complete(token, 999), true);
        });
        Due.holds("Throws `IllegalArgumentException` if ticks is out of range // no tick passes", () -> {
            Loomkeeper x = Words.keeper("TIMER 1");
            x.start(0, 0);
            for (int ticks : new int[] {0, -1, 51, Integer.MIN_VALUE, Integer.MAX_VALUE}) {
                Due.throwsArgument("tick", () -> x.tick(ticks));
            }
            Due.is("now", x.now(), 0);
            Due.is("it waits", x.state(0), 0);
        });
    }

    private static void counts() {
        Due.holds("Returns how many workflows there are. // those that have ended as well", () -> {
            Loomkeeper x = Words.keeper("START 1", "CHILD 1", "AS_NEW");
            Words.code(x, 1, "CALL 1");
            Due.is("none", x.workflows(), 0);
            x.start(0, 0);
            Due.is("with one started, and a child", x.workflows(), 3);
            x.cancel(1);
            Due.is("with one that has ended", x.workflows(), 3);
            x.complete(x.poll(), 1);
            Due.is("as new, with two of its own", x.workflows(), 6);
        });
        Due.holds("Returns how many tasks there were. // those that are closed as well", () -> {
            Loomkeeper x = Words.keeper("UNDO 1", "CALL 1");
            Due.is("none", x.tasks(), 0);
            x.start(0, 0);
            x.start(0, 0);
            Due.is("two", x.tasks(), 2);
            x.cancel(0);
            Due.is("with one to undo", x.tasks(), 3);
            x.poll();
            x.fail(1);
            x.tick(2);
            x.poll();
            Due.is("tries are none", x.tasks(), 3);
            for (int i = 0; i < 3; i++) {
                x.complete(x.poll(), 0);
            }
            Due.is("all of them", x.tasks(), 3);
        });
        Due.holds("Returns how many events a workflow has.", () -> {
            Loomkeeper x = Words.keeper("AWAIT 1");
            x.start(0, 0);
            Due.is("one at least", x.events(0), 1);
            for (int i = 2; i <= 90; i++) {
                x.signal(0, 2, 2);
                Due.is("events", x.events(0), i);
            }
        });
        Due.holds("Returns now. // the most that 500 calls can make of it", () -> {
            Loomkeeper x = new Loomkeeper();
            Due.is("at first", x.now(), 0);
            for (int i = 1; i <= 500; i++) {
                Due.is("tick", x.tick(50), 50 * i);
            }
            Due.is("now", x.now(), 25000);
            Words.code(x, 0, "TIMER 99");
            x.start(0, 0);
            Due.is("a timer by then", Words.where(x, 0), "at 1, value 0, timer 25099");
        });
    }

    private static void about() {
        Due.holds("1 its place, that behind the step by which it waits", () -> {
            for (int step = 0; step < 20; step++) {
                Loomkeeper x = new Loomkeeper();
                Words.set(x, 0, 0, "JUMP " + step);
                if (step > 0) {
                    Words.set(x, 0, step, "TIMER 1");
                    x.start(0, 0);
                    Due.is("place", Words.where(x, 0), "at " + (step + 1) % 20 + ", value 0, timer 1");
                }
            }
            Loomkeeper y = Words.keeper("TIMER 1");
            y.start(0, 0);
            Due.is("behind the step 0", y.about(0, 1), 1);
        });
        Due.holds("3 for what it waits: 0 nothing, 1 an activity, 2 a timer, 3 a signal, 4 a signal or ticks, 5 a child, "
            + "6 an activity by which it undoes", () -> {
                String[] steps = {"END", "CALL 1", "TIMER 1", "AWAIT 1", "SELECT 1 1", "CHILD 1", "FAIL"};
                for (int i = 0; i < steps.length; i++) {
                    Loomkeeper x = Words.keeper("UNDO 1", steps[i]);
                    Words.code(x, 1, "AWAIT 1");
                    x.start(0, 0);
                    Due.is(steps[i], x.about(0, 3), i);
                    Due.is(steps[i], x.aboutAnew(0, 3), i);
                }
            });
        Due.holds("of the task, the tick, the signal (also of a signal or ticks), the child as its event CHILD told it; "
            + "0 for nothing", () -> {
                Loomkeeper x = Words.keeper("CALL 50", "TIMER 51", "AWAIT 52", "SELECT 53 54", "CHILD 1", "FAIL");
                Words.code(x, 1, "AWAIT 1", "AS_NEW");
                Words.code(x, 2, "CALL 0");
                x.start(2, 0);
                x.start(0, 0);
                Due.is("the task", x.about(1, 4), 1);
                x.complete(x.poll(), 9);
                Due.is("the tick", x.about(1, 4), 51);
                x.tick(50);
                x.tick(1);
                Due.is("the signal", x.about(1, 4), 52);
                x.signal(1, 52, 0);
                Due.is("the signal of a signal or ticks", x.about(1, 4), 53);
                x.signal(1, 53, 0);
                Due.is("the child", x.about(1, 4), 2);
                x.signal(2, 1, 0);
                Due.is("the child went on as new", x.state(2), 4);
                Due.is("the child as its event CHILD told it", x.about(1, 4), 2);
                x.cancel(1);
                Due.is("nothing", x.about(1, 4), 0);
            });
        Due.holds("5 how many are on its pile, 6 whether it is in a shield (1 or 0)", () -> {
            Loomkeeper x = Words.keeper("AWAIT 1", "UNDO 1", "SHIELD", "JUMP 0");
            x.start(0, 0);
            for (int i = 0; i <= 20; i++) {
                Due.is("the pile", x.about(0, 5), i);
                Due.is("the shield", x.about(0, 6), i == 0 ? 0 : 1);
                x.signal(0, 1, 1);
            }
            Due.is("one was taken", x.about(0, 5), 19);
            Due.is("still in the shield", x.about(0, 6), 1);
        });
        Due.holds("Returns the parent of a workflow, also of one that went on as new;", () -> {
            Loomkeeper x = Words.keeper("CHILD 1");
            Words.code(x, 1, "AWAIT 1", "AS_NEW");
            x.start(0, 0);
            x.start(1, 0);
            for (int i = 1; i < 10; i++) {
                x.signal(i == 1 ? 1 : i + 1, 1, 0);
                Due.is("of the old one", x.parent(i == 1 ? 1 : i + 1), 0);
                Due.is("of the new one", x.parent(i + 2), 0);
            }
            x.cancel(0);
            Due.is("of one that does not wait for it any more", x.parent(11), 0);
            x.signal(2, 1, 0);
            Due.is("of one without a parent", x.parent(12), -1);
        });
    }

    private static void tellingChangesNothing() {
        Due.holds("nothing from here on changes what others tell", () -> {
            Loomkeeper x = waiting();
            Loomkeeper y = waiting();
            for (int i = 0; i < 60; i++) {
                for (int w = 0; w < x.workflows(); w++) {
                    Words.where(x, w);
                    Words.history(x, w);
                }
                String told = Words.all(x);
                Due.is("told again", Words.all(x), told);
                go(x, i);
                go(y, i);
            }
            Due.is("not told in between", Words.all(y), Words.all(x));
            Due.is("the next token", x.poll(), y.poll());
        });
    }
}
