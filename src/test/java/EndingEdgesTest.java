/** "Programs" of the Terms: failing, undoing, cancelling, shields, children that are asked, signals that are kept. */
public final class EndingEdgesTest {
    public static void main(String[] args) {
        failing();
        undoing();
        cancelling();
        shields();
        asking();
        notAsking();
        signals();
        asNew();
        Due.end();
    }

    /** Fails the task three times, with the rests between. */
    private static void failThreeTimes(Loomkeeper x) {
        for (int i = 0; i < 3; i++) {
            Due.is("fail", x.fail(x.poll()), true);
            x.tick(4);
        }
    }

    private static void failing() {
        Due.holds("When it fails, or an activity or a child that it waits for has failed // with nothing to undo", () -> {
            Loomkeeper x = Words.keeper("CALL 1");
            x.start(0, 5);
            failThreeTimes(x);
            Due.is("an activity", Words.history(x, 0), "STARTED 5, SCHEDULED 1, FAILED 0, END 52");
            Loomkeeper y = Words.keeper("CHILD 1");
            Words.code(y, 1, "ADD 3", "FAIL");
            y.start(0, 5);
            Due.is("a child", Words.history(y, 0), "STARTED 5, CHILD 1, ENDED 82, END 52");
            Due.is("the child", Words.history(y, 1), "STARTED 5, END 82");
            Due.is("how both ended", 10 * y.state(0) + y.state(1), 22);
        });
        Due.holds("or the child was cancelled", () -> {
            Loomkeeper x = Words.keeper("UNDO 4", "CHILD 1");
            Words.code(x, 1, "ADD 3", "AWAIT 1");
            x.start(0, 5);
            x.cancel(1);
            Due.is("it undoes as one that fails", Words.where(x, 0), "at 2, value 5, undoing 0, will end 2");
            x.complete(x.poll(), 0);
            Due.is("the parent", Words.history(x, 0), "STARTED 5, CHILD 1, ENDED 83, UNDOES 4, DONE 0, END 52");
        });
        Due.holds("13 FAIL: it fails; // one that is not waited for", () -> {
            Loomkeeper x = Words.keeper("START 1", "AWAIT 1");
            Words.code(x, 1, "FAIL");
            x.start(0, 5);
            Due.is("the one that started it", Words.where(x, 0), "at 2, value 1, signal 1");
            Due.is("the one that failed", x.state(1), 2);
        });
    }

    private static void undoing() {
        Due.holds("the pile is taken, the last one first", () -> {
            Loomkeeper x = Words.keeper("UNDO 1", "UNDO 2", "UNDO 3", "FAIL");
            x.start(0, 5);
            for (int i = 0; i < 3; i++) {
                Due.is("where it is", Words.where(x, 0), "at 4, value 5, undoing " + i + (i == 2 ? "" : ", pile " + (2 - i))
                    + ", will end 2");
                Due.is("one task after the other", x.tasks(), i + 1);
                x.complete(x.poll(), 0);
            }
            Due.is("undone", Words.history(x, 0), "STARTED 5, UNDOES 3, DONE 0, UNDOES 2, DONE 0, UNDOES 1, DONE 0, END 52");
        });
        Due.holds("waited for, however it ends, the value staying as it is", () -> {
            Loomkeeper x = Words.keeper("UNDO 1", "UNDO 2", "FAIL");
            x.start(0, 5);
            failThreeTimes(x);
            Due.is("behind one that failed", Words.where(x, 0), "at 3, value 5, undoing 1, will end 2");
            x.complete(x.poll(), 999);
            Due.is("undone", Words.history(x, 0), "STARTED 5, UNDOES 2, FAILED 0, UNDOES 1, DONE 999, END 52");
            Due.is("value", x.about(0, 2), 5);
        });
        Due.holds("waited for, however it ends, the value staying as it is // of one that is cancelled", () -> {
            Loomkeeper x = Words.keeper("UNDO 1", "UNDO 2", "AWAIT 1");
            x.start(0, 5);
            x.cancel(0);
            failThreeTimes(x);
            Due.is("it still ends cancelled", Words.where(x, 0), "at 3, value 5, undoing 1, will end 3");
            failThreeTimes(x);
            Due.is("undone", Words.history(x, 0), "STARTED 5, ASKED 0, UNDOES 2, FAILED 0, UNDOES 1, FAILED 0, END 53");
        });
        Due.holds("7 how it will end, if it undoes, otherwise 0", () -> {
            Loomkeeper x = Words.keeper("UNDO 1", "CALL 2", "AWAIT 9");
            x.start(0, 5);
            Due.is("it waits", x.about(0, 7), 0);
            x.cancel(0);
            Due.is("it undoes", x.about(0, 7), 3);
            x.complete(x.poll(), 0);
            Due.is("it has ended", x.about(0, 7), 0);
            x.start(0, 5);
            failThreeTimes(x);
            Due.is("it undoes", x.about(1, 7), 2);
            failThreeTimes(x);
            Due.is("it has ended", 10 * x.state(1) + x.about(1, 7), 20);
        });
        Due.holds("END: it ends well // with a pile, of which nothing is undone", () -> {
            Loomkeeper x = Words.keeper("UNDO 1", "UNDO 2");
            x.start(0, 5);
            Due.is("history", Words.history(x, 0), "STARTED 5, END 51");
            Due.is("the pile", Words.where(x, 0), "at 3, value 5, pile 2");
            Due.is("no task", x.tasks(), 0);
        });
    }

    private static void cancelling() {
        Due.holds("When it is asked to cancel, in no shield, and does not undo, it does not wait any more", () -> {
            String[] steps = {"CALL 1", "TIMER 9", "AWAIT 1", "SELECT 1 9", "CHILD 1"};
            String[] events = {"SCHEDULED 1, ", "TIMER 9, ", "", "TIMER 9, ", "CHILD 1, "};
            for (int i = 0; i < steps.length; i++) {
                Loomkeeper x = Words.keeper(steps[i]);
                Words.code(x, 1, "AWAIT 1");
                x.start(0, 5);
                Due.is("cancel", x.cancel(0), true);
                Due.is(steps[i], Words.history(x, 0), "STARTED 5, " + events[i] + "ASKED 0, END 53");
                Due.is(steps[i], Words.where(x, 0), "at 1, value 5");
                x.tick(20);
                Due.is("a second time", x.cancel(0), false);
                Due.is("nothing more", x.events(0), events[i].isEmpty() ? 3 : 4);
            }
        });
        Due.holds("When it is asked to cancel, in no shield, and does not undo // one that undoes", () -> {
            Loomkeeper x = Words.keeper("UNDO 1", "UNDO 2", "FAIL");
            x.start(0, 5);
            Due.is("it comes into the history", x.cancel(0), true);
            Due.is("it ends failed all the same", Words.where(x, 0), "at 3, value 5, undoing 0, pile 1, will end 2");
            Due.is("its task goes on", Words.task(x, 0), "of 0, activity 2, ready, tries 0, token 0, until 0");
            x.complete(x.poll(), 0);
            x.cancel(0);
            x.complete(x.poll(), 0);
            Due.is("history", Words.history(x, 0), "STARTED 5, UNDOES 2, ASKED 0, DONE 0, UNDOES 1, ASKED 0, DONE 0, END 52");
        });
        Due.holds("a task is closed as soon as its workflow does not wait for it any more // by ASKED", () -> {
            Loomkeeper x = Words.keeper("CALL 1");
            for (int i = 0; i < 3; i++) {
                x.start(0, 5);
            }
            x.poll();
            x.fail(x.poll());
            for (int i = 0; i < 3; i++) {
                x.cancel(i);
            }
            Due.is("one that ran", Words.task(x, 0), "of 0, activity 1, closed, tries 0, token 1, until 0");
            Due.is("one that rested", Words.task(x, 1), "of 1, activity 1, closed, tries 1, token 2, until 0");
            Due.is("one that was ready", Words.task(x, 2), "of 2, activity 1, closed, tries 0, token 0, until 0");
            Due.is("a late result", x.complete(1, 1), false);
            x.tick(9);
            Due.is("none is ready", x.poll(), -1);
            Due.is("no try more", x.task(0, 3) + x.task(1, 3), 1);
        });
    }

    private static void shields() {
        Due.holds("15 SHIELD: from here on it cannot be cancelled;  16 OPEN: it can again", () -> {
            Loomkeeper x = Words.keeper("AWAIT 1", "SHIELD", "AWAIT 1", "OPEN", "AWAIT 1");
            for (int i = 0; i < 3; i++) {
                x.start(0, 5);
                for (int j = 0; j < i; j++) {
                    x.signal(i, 1, j);
                }
                x.cancel(i);
            }
            Due.is("ahead of it", x.state(0), 3);
            Due.is("within", Words.where(x, 1), "at 3, value 0, signal 1, shield");
            Due.is("behind it", x.state(2), 3);
            Due.is("behind it", Words.history(x, 2), "STARTED 5, SIGNAL 100, SIGNAL 101, ASKED 0, END 13");
        });
        Due.holds("if it was asked in a shield, at the step that opens it", () -> {
            Loomkeeper x = Words.keeper("SHIELD", "SHIELD", "AWAIT 1", "UNDO 8", "AWAIT 1", "OPEN", "CALL 4");
            x.start(0, 5);
            x.cancel(0);
            x.signal(0, 1, 3);
            Due.is("still in the shield", Words.where(x, 0), "at 5, value 3, signal 1, pile 1, shield");
            x.cancel(0);
            x.signal(0, 1, 4);
            Due.is("one OPEN opens both", Words.where(x, 0), "at 6, value 4, undoing 0, will end 3");
            x.complete(x.poll(), 0);
            Due.is("history", Words.history(x, 0),
                "STARTED 5, ASKED 0, SIGNAL 103, ASKED 0, SIGNAL 104, UNDOES 8, DONE 0, END 43");
        });
        Due.holds("if it was asked in a shield, at the step that opens it // one that was not asked", () -> {
            Loomkeeper x = Words.keeper("SHIELD", "AWAIT 1", "OPEN", "OPEN", "SHIELD", "AWAIT 1");
            x.start(0, 5);
            x.signal(0, 1, 3);
            Due.is("it goes on", Words.where(x, 0), "at 6, value 3, signal 1, shield");
        });
        Due.holds("if it was asked in a shield, at the step that opens it // one that ends or fails ahead of that", () -> {
            Loomkeeper x = Words.keeper("SHIELD", "UNDO 1", "AWAIT 1", "END");
            Words.code(x, 1, "SHIELD", "UNDO 1", "AWAIT 1", "FAIL", "OPEN");
            Words.code(x, 2, "SHIELD", "AWAIT 1", "AS_NEW");
            for (int i = 0; i < 3; i++) {
                x.start(i, 5);
                x.cancel(i);
                x.signal(i, 1, 6);
            }
            Due.is("it ends well", Words.history(x, 0), "STARTED 5, ASKED 0, SIGNAL 106, END 61");
            Due.is("it fails", Words.where(x, 1), "at 4, value 6, undoing 0, shield, will end 2");
            x.complete(x.poll(), 0);
            Due.is("it fails", Words.history(x, 1), "STARTED 5, ASKED 0, SIGNAL 106, UNDOES 1, DONE 0, END 62");
            Due.is("it goes on as new", Words.history(x, 2), "STARTED 5, ASKED 0, SIGNAL 106, BEGAN 3, END 64");
            Due.is("the new one was not asked", Words.where(x, 3), "at 2, value 6, signal 1, shield");
        });
    }

    /** 0 waits for its child 1. */
    private static Loomkeeper withChild(String... steps) {
        Loomkeeper x = Words.keeper("UNDO 1", "CHILD 1", "AWAIT 2");
        Words.code(x, 1, steps);
        x.start(0, 5);
        return x;
    }

    private static void asking() {
        Due.holds("the child is asked as well, behind it (when it has gone on)", () -> {
            Loomkeeper x = withChild("UNDO 2", "AWAIT 1");
            x.cancel(0);
            Due.is("the parent undoes", Words.where(x, 0), "at 2, value 5, undoing 0, will end 3");
            Due.is("the child undoes", Words.where(x, 1), "at 2, value 5, undoing 1, will end 3");
            Due.is("the task of the parent comes first", Words.task(x, 0), "of 0, activity 1, ready, tries 0, token 0, until 0");
            Due.is("the task of the child", Words.task(x, 1), "of 1, activity 2, ready, tries 0, token 0, until 0");
        });
        Due.holds("the child is asked as well // and its child, and the child of that", () -> {
            Loomkeeper x = Words.keeper("CHILD 1");
            for (int i = 1; i < 6; i++) {
                Words.code(x, i, i == 5 ? "AWAIT 1" : "CHILD " + (i + 1));
            }
            x.start(0, 5);
            x.cancel(0);
            for (int i = 0; i < 6; i++) {
                Due.is("workflow " + i, Words.history(x, i),
                    "STARTED 5, " + (i == 5 ? "" : "CHILD " + (i + 1) + ", ") + "ASKED 0, END 53");
            }
        });
        Due.holds("the child is asked as well // 39 deep", () -> {
            Loomkeeper x = Words.keeper("BRANCH 4", "TAKE 1", "CHILD 0", "END", "AWAIT 1");
            x.start(0, 39);
            Due.is("workflows", x.workflows(), 40);
            Due.is("cancel", x.cancel(0), true);
            for (int i = 0; i < 40; i++) {
                Due.is("workflow " + i, x.state(i), 3);
            }
        });
        Due.holds("the child is asked as well, behind it (when it has gone on) // by one that ends at once", () -> {
            Loomkeeper x = Words.keeper("UNDO 1", "CHILD 1");
            Words.code(x, 1, "CHILD 2");
            Words.code(x, 2, "UNDO 2", "AWAIT 1");
            x.start(0, 5);
            x.cancel(1);
            Due.is("the one that is asked", Words.history(x, 1), "STARTED 5, CHILD 2, ASKED 0, END 53");
            Due.is("its child goes on ahead of its parent", Words.task(x, 0), "of 2, activity 2, ready, tries 0, token 0, until 0");
            Due.is("its parent", Words.task(x, 1), "of 0, activity 1, ready, tries 0, token 0, until 0");
            Due.is("its parent", Words.history(x, 0), "STARTED 5, CHILD 1, ENDED 53, UNDOES 1");
        });
        Due.holds("the child is asked as well // the one that has its place by now", () -> {
            Loomkeeper x = withChild("AWAIT 1", "AS_NEW");
            x.signal(1, 1, 0);
            x.signal(2, 1, 0);
            x.cancel(0);
            Due.is("the first one", Words.history(x, 1), "STARTED 5, SIGNAL 100, BEGAN 2, END 4");
            Due.is("the second one", Words.history(x, 2), "STARTED 0, SIGNAL 100, BEGAN 3, END 4");
            Due.is("the third one", Words.history(x, 3), "STARTED 0, ASKED 0, END 3");
        });
        Due.holds("the child is asked as well // one of its own program, that by set has not gone on yet", () -> {
            Loomkeeper x = Words.keeper("ADD 0", "BRANCH 5", "TAKE 1", "CHILD 0");
            Words.set(x, 0, 5, "AWAIT 1");
            x.start(0, 1);
            Words.set(x, 0, 0, "AWAIT 9");
            Due.is("cancel of one astray", x.cancel(0), true);
            Words.set(x, 0, 5, "CALL 5");
            Due.is("the child still waits for 9", Words.where(x, 1), "at 1, value 0, signal 9");
            Due.is("set", Words.set(x, 0, 0, "ADD 0"), 1);
            Due.is("the parent", Words.history(x, 0), "STARTED 1, CHILD 1, ASKED 0, END 3");
            Due.is("the child is asked ahead of its CALL", Words.history(x, 1), "STARTED 0, ASKED 0");
            Due.is("which is something else", x.state(1), 5);
        });
        Due.holds("the child is asked as well // one that is astray", () -> {
            Loomkeeper x = withChild("UNDO 2", "CALL 3");
            Words.set(x, 1, 1, "CALL 4");
            x.cancel(0);
            Due.is("it comes into its history", Words.history(x, 1), "STARTED 5, SCHEDULED 3, ASKED 0");
            Due.is("it does nothing", x.state(1), 5);
            Words.set(x, 1, 1, "CALL 3");
            Due.is("it goes again", Words.where(x, 1), "at 2, value 5, undoing 2, will end 3");
        });
    }

    private static void notAsking() {
        Due.holds("If it waited for a child and does not any more by that // in a shield", () -> {
            Loomkeeper x = Words.keeper("SHIELD", "CHILD 1", "OPEN");
            Words.code(x, 1, "AWAIT 1");
            x.start(0, 5);
            x.cancel(0);
            Due.is("the child", Words.history(x, 1), "STARTED 5");
            Due.is("the parent", Words.where(x, 0), "at 2, value 5, child 1, shield");
        });
        Due.holds("If it waited for a child and does not any more by that // one that undoes", () -> {
            Loomkeeper x = withChild("SHIELD", "AWAIT 1");
            x.cancel(0);
            x.cancel(0);
            Due.is("the child is asked once", Words.history(x, 1), "STARTED 5, ASKED 0");
        });
        Due.holds("If it waited for a child and does not any more by that // a child that it waited for before", () -> {
            Loomkeeper x = Words.keeper("CHILD 1", "START 2", "AWAIT 7");
            Words.code(x, 2, "AWAIT 1");
            x.start(0, 5);
            x.cancel(0);
            Due.is("the one that ended", Words.history(x, 1), "STARTED 5, END 51");
            Due.is("one that it does not wait for", Words.history(x, 2), "STARTED 5");
        });
        Due.holds("Nothing comes into that of one that has ended // a child that is asked", () -> {
            Loomkeeper x = withChild("CALL 3");
            Words.set(x, 0, 1, "CALL 9");
            x.complete(x.poll(), 4);
            Words.set(x, 0, 1, "CHILD 1");
            Due.is("it waits for one that has ended", Words.where(x, 0), "at 2, value 5, child 1, pile 1");
            x.cancel(0);
            Due.is("the child", Words.history(x, 1), "STARTED 5, SCHEDULED 3, DONE 4, END 41");
        });
        Due.holds("no SIGNAL and no ASKED into one with 90 events or more // a child that is asked", () -> {
            for (int events = 89; events <= 90; events++) {
                Loomkeeper x = withChild("AWAIT 1");
                Words.fill(x, 1, events - 1);
                x.cancel(0);
                Due.is("the child, of " + events, x.state(1), events == 89 ? 3 : 0);
                Due.is("the child, of " + events, x.events(1), events == 89 ? 91 : 90);
            }
        });
        Due.holds("an ASKED that it has gone through asks no child any more, whatever the code becomes", () -> {
            Loomkeeper x = Words.keeper("SHIELD", "CHILD 1");
            Words.code(x, 1, "AWAIT 1");
            x.start(0, 5);
            x.cancel(0);
            Words.set(x, 0, 0, "OPEN");
            Due.is("the parent is cancelled by the code", Words.history(x, 0), "STARTED 5, CHILD 1, ASKED 0, END 53");
            Due.is("the child", Words.history(x, 1), "STARTED 5");
        });
        Due.holds("an ASKED that it has gone through asks no child any more // behind a crash, and from astray", () -> {
            Loomkeeper x = Words.keeper("SHIELD", "CHILD 1", "AWAIT 2");
            Words.code(x, 1, "AWAIT 1");
            x.start(0, 5);
            x.cancel(0);
            Words.set(x, 0, 0, "CALL 1");
            x.crash();
            Due.is("astray", x.state(0), 5);
            Words.set(x, 0, 0, "OPEN");
            Due.is("the parent is cancelled", x.state(0), 3);
            Due.is("the child", Words.history(x, 1), "STARTED 5");
        });
        Due.holds("an ASKED that it has gone through asks no child any more // one that it has not gone through", () -> {
            Loomkeeper x = Words.keeper("ADD 1", "CHILD 1", "AWAIT 2");
            Words.code(x, 1, "AWAIT 1");
            x.start(0, 5);
            Words.set(x, 0, 0, "CALL 1");
            Due.is("cancel", x.cancel(0), true);
            x.crash();
            Due.is("the child", Words.history(x, 1), "STARTED 6");
            Words.set(x, 0, 0, "ADD 2");
            Due.is("the parent", Words.history(x, 0), "STARTED 5, CHILD 1, ASKED 0, END 73");
            Due.is("the child", Words.history(x, 1), "STARTED 6, ASKED 0, END 63");
        });
    }

    private static void signals() {
        Due.holds("one that is waited for is the one that came first, and is used up", () -> {
            Loomkeeper x = Words.keeper("TIMER 1", "AWAIT 1", "AWAIT 1", "AWAIT 1", "AWAIT 1");
            x.start(0, 5);
            int[] sent = {11, 12, 13};
            for (int with : sent) {
                x.signal(0, 1, with);
                x.signal(0, 2, with + 10);
            }
            x.tick(1);
            Due.is("the fourth one is not there", Words.where(x, 0), "at 5, value 13, signal 1, kept 3");
            Words.set(x, 0, 4, "CALL 1");
            Words.set(x, 0, 3, "AWAIT 2");
            Due.is("the first one of 2", Words.where(x, 0), "at 5, value 21, activity 0, kept 3");
        });
        Due.holds("if one is kept already, it does not wait (a SELECT makes no event then)", () -> {
            Loomkeeper x = Words.keeper("TIMER 1", "SELECT 1 5", "SELECT 1 5", "AWAIT 7");
            x.start(0, 5);
            x.signal(0, 1, 44);
            x.tick(1);
            Due.is("the second SELECT waits", Words.history(x, 0), "STARTED 5, TIMER 1, SIGNAL 144, FIRED 0, TIMER 6");
            Due.is("the second SELECT waits", Words.where(x, 0), "at 3, value 1, signal or ticks 1");
            x.tick(5);
            Due.is("the second SELECT was for nothing", Words.where(x, 0), "at 4, value 0, signal 7");
        });
        Due.holds("Signals are kept by their numbers as they come // while it undoes, until 90 events", () -> {
            Loomkeeper x = Words.keeper("UNDO 1", "FAIL");
            x.start(0, 5);
            Due.is("all of them", Words.fill(x, 0, 88), true);
            Due.is("one more", x.signal(0, 98, 0), false);
            Due.is("kept", Words.where(x, 0), "at 2, value 5, undoing 0, will end 2, kept 88");
        });
        Due.holds("8 how many signals are kept // none and all that may come", () -> {
            Loomkeeper x = Words.keeper("AWAIT 1");
            x.start(0, 5);
            Due.is("none", x.about(0, 8), 0);
            Words.fill(x, 0, 100);
            Due.is("all", x.about(0, 8), 89);
            Due.is("all anew", x.aboutAnew(0, 8), 89);
        });
    }

    private static void asNew() {
        Due.holds("which has its place with its parent; then it ends as new", () -> {
            Loomkeeper x = withChild("BRANCH 4", "TAKE 1", "AS_NEW");
            Due.is("workflows", x.workflows(), 7);
            for (int i = 1; i < 7; i++) {
                Due.is("parent of " + i, x.parent(i), 0);
                Due.is("state of " + i, x.state(i), i < 6 ? 4 : 1);
            }
            Due.is("the parent goes on by the last one", Words.history(x, 0), "STARTED 5, CHILD 1, ENDED 1");
            Due.is("the parent goes on by the last one", Words.where(x, 0), "at 3, value 0, signal 2, pile 1");
        });
        Due.holds("which has its place with its parent // one that fails, and one that is cancelled", () -> {
            for (int how = 2; how <= 3; how++) {
                Loomkeeper x = withChild("AWAIT 1", "BRANCH 4", "AS_NEW", "END", "FAIL");
                x.signal(1, 1, 7);
                if (how == 2) {
                    x.signal(2, 1, 0);
                } else {
                    x.cancel(2);
                }
                Due.is("the new one", x.state(2), how);
                Due.is("the parent", Words.history(x, 0), "STARTED 5, CHILD 1, ENDED " + (how == 2 ? 2 : 73) + ", UNDOES 1");
            }
        });
        Due.holds("17 AS_NEW: a workflow of its program is started with the value // without a parent", () -> {
            Loomkeeper x = Words.keeper("AWAIT 1", "AS_NEW");
            Words.code(x, 1, "START 0", "AWAIT 9");
            x.start(1, 5);
            x.signal(1, 1, 8);
            Due.is("the one that was started", Words.history(x, 1), "STARTED 5, SIGNAL 108, BEGAN 2, END 84");
            Due.is("the new one", Words.history(x, 2), "STARTED 8");
            Due.is("no parents", x.parent(1) + x.parent(2), -2);
            Due.is("nothing comes to the first one", x.events(0), 2);
        });
    }
}
