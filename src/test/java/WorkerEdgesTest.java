/** "Activities, workers, chance" of the Terms, and what it says of ticks and of workflows: their edges. */
public final class WorkerEdgesTest {
    public static void main(String[] args) {
        polling();
        whoIsServed();
        leases();
        tries();
        tokens();
        closing();
        ticking();
        room();
        goingOn();
        Due.end();
    }

    /** So many workflows that call an activity 1, of a program. */
    private static void start(Loomkeeper x, int program, int workflows) {
        Words.code(x, program, "CALL 1", "CALL 2", "CALL 3");
        for (int i = 0; i < workflows; i++) {
            x.start(program, 0);
        }
    }

    private static Loomkeeper one() {
        Loomkeeper x = new Loomkeeper();
        start(x, 0, 1);
        return x;
    }

    private static void polling() {
        Due.holds("Returns the token; -1 if no task is ready.", () -> {
            Loomkeeper x = new Loomkeeper();
            Due.is("no task at all", x.poll(), -1);
            start(x, 0, 1);
            Due.is("one is ready", x.poll(), 1);
            Due.is("it runs", x.poll(), -1);
            x.fail(1);
            Due.is("it rests", x.poll(), -1);
            x.tick(2);
            Due.is("ready, by the next token", x.poll(), 2);
            x.complete(2, 0);
            Due.is("the one behind it", x.poll(), 3);
            x.cancel(0);
            Due.is("it is closed", x.poll(), -1);
        });
        Due.holds("An activity that is scheduled is a task, numbered from 0.", () -> {
            Loomkeeper x = one();
            Due.is("tasks", x.tasks(), 1);
            Due.is("the first one", Words.task(x, 0), "of 0, activity 1, ready, tries 0, token 0, until 0");
            x.complete(x.poll(), 0);
            Due.is("tasks", x.tasks(), 2);
            Due.is("the second one", Words.task(x, 1), "of 0, activity 2, ready, tries 0, token 0, until 0");
            Due.is("the first one", Words.task(x, 0), "of 0, activity 1, closed, tries 0, token 1, until 0");
        });
        Due.holds("it runs then, with a new token, counted from 1, until 6 ticks later", () -> {
            Loomkeeper x = one();
            x.tick(50);
            Due.is("poll", x.poll(), 1);
            Due.is("it runs", Words.task(x, 0), "of 0, activity 1, runs, tries 0, token 1, until 56");
        });
    }

    private static void whoIsServed() {
        Due.holds("those of the program that was served the longest time ago, or never (of several the lowest program)", () -> {
            Loomkeeper x = new Loomkeeper();
            for (int p = 5; p >= 0; p--) {
                start(x, p, 2);
            }
            // Never served: the lowest program; then, all having been served, in the same order again.
            for (int i = 0; i < 12; i++) {
                int token = x.poll();
                int task = 2 * (5 - i % 6) + i / 6;
                Due.is("token of the task " + task, x.task(task, 4), token);
            }
            Due.is("no more", x.poll(), -1);
        });
        Due.holds("those of the program that was served the longest time ago // all at one tick, and a poll for nothing", () -> {
            Loomkeeper x = new Loomkeeper();
            start(x, 1, 2);
            start(x, 4, 2);
            start(x, 2, 1);
            int[] tasks = {0, 4, 2, 1};
            for (int i = 0; i < 4; i++) {
                x.poll();
                Due.is("token of the task " + tasks[i], x.task(tasks[i], 4), i + 1);
            }
            start(x, 2, 1);
            // 2 was served before 4, and 4 before 1.
            x.poll();
            Due.is("of 2", x.task(5, 4), 5);
            x.poll();
            Due.is("of 4", x.task(3, 4), 6);
            Due.is("for nothing", x.poll(), -1);
            start(x, 1, 1);
            start(x, 4, 1);
            x.poll();
            Due.is("1 was served before 4", x.task(6, 4), 7);
        });
        Due.holds("of these the lowest one", () -> {
            Loomkeeper x = new Loomkeeper();
            start(x, 3, 3);
            x.fail(x.poll());
            Due.is("the second one", x.poll(), 2);
            Due.is("the second one", x.task(1, 4), 2);
            x.tick(2);
            Due.is("the first one again", x.poll(), 3);
            Due.is("the first one again", x.task(0, 4), 3);
            x.complete(2, 0);
            Due.is("the third one", x.poll(), 4);
            Due.is("the third one", x.task(2, 4), 4);
            Due.is("the new one of the second workflow", x.poll(), 5);
            Due.is("the new one of the second workflow", x.task(3, 4), 5);
        });
        Due.holds("of the ready tasks, those of the program that was served the longest time ago // one without a ready one", () -> {
            Loomkeeper x = new Loomkeeper();
            start(x, 0, 1);
            start(x, 1, 2);
            x.poll();
            x.poll();
            Due.is("0 has none that is ready", x.poll(), 3);
            Due.is("so 1 is served again", x.task(2, 4), 3);
        });
    }

    private static void leases() {
        Due.holds("or beat (it runs until 6 ticks later then)", () -> {
            Loomkeeper x = one();
            x.poll();
            Due.is("at once", x.beat(1), true);
            Due.is("it is not added", Words.task(x, 0), "of 0, activity 1, runs, tries 0, token 1, until 6");
            x.tick(5);
            Due.is("at the last tick", x.beat(1), true);
            Due.is("it runs", Words.task(x, 0), "of 0, activity 1, runs, tries 0, token 1, until 11");
            x.tick(5);
            Due.is("still", x.task(0, 2), 1);
            x.tick(1);
            Due.is("the ticks are over", Words.task(x, 0), "of 0, activity 1, rests, tries 1, token 1, until 13");
            Due.is("too late", x.beat(1), false);
        });
        Due.holds("If it fails, or the ticks are over, that was a try more", () -> {
            Loomkeeper x = one();
            x.poll();
            x.tick(5);
            Due.is("5 ticks", x.task(0, 3), 0);
            Due.is("a result at the last tick", Words.task(x, 0), "of 0, activity 1, runs, tries 0, token 1, until 6");
            x.tick(1);
            Due.is("6 ticks", x.task(0, 3), 1);
            Due.is("a late result", x.complete(1, 4), false);
            Due.is("a late failing", x.fail(1), false);
            Due.is("one try alone", x.task(0, 3), 1);
            x.tick(2);
            x.poll();
            x.fail(2);
            Due.is("fail", x.task(0, 3), 2);
        });
        Due.holds("until 6 ticks later // a result at the last tick", () -> {
            Loomkeeper x = one();
            x.poll();
            x.tick(5);
            Due.is("complete", x.complete(1, 4), true);
            Due.is("its value", x.about(0, 2), 4);
        });
    }

    private static void tries() {
        Due.holds("otherwise it rests for 2 to the power of its tries ticks, and is ready then", () -> {
            Loomkeeper x = one();
            x.fail(x.poll());
            Due.is("the first try", Words.task(x, 0), "of 0, activity 1, rests, tries 1, token 1, until 2");
            x.tick(1);
            Due.is("1 tick", x.poll(), -1);
            x.tick(1);
            Due.is("2 ticks", Words.task(x, 0), "of 0, activity 1, ready, tries 1, token 1, until 0");
            x.fail(x.poll());
            Due.is("the second try", Words.task(x, 0), "of 0, activity 1, rests, tries 2, token 2, until 6");
            x.tick(3);
            Due.is("3 ticks", x.poll(), -1);
            x.tick(1);
            Due.is("4 ticks", Words.task(x, 0), "of 0, activity 1, ready, tries 2, token 2, until 0");
        });
        Due.holds("with 3 its workflow gets FAILED // by fail", () -> {
            Loomkeeper x = one();
            for (int i = 0; i < 3; i++) {
                Due.is("events before the try " + i, x.events(0), 2);
                x.fail(x.poll());
                x.tick(4);
            }
            Due.is("closed", Words.task(x, 0), "of 0, activity 1, closed, tries 3, token 3, until 0");
            Due.is("FAILED", Words.history(x, 0), "STARTED 0, SCHEDULED 1, FAILED 0, END 2");
        });
        Due.holds("with 3 its workflow gets FAILED // by ticks", () -> {
            Loomkeeper x = one();
            x.poll();
            x.tick(8);
            x.poll();
            x.tick(10);
            x.poll();
            x.tick(5);
            Due.is("still", Words.task(x, 0), "of 0, activity 1, runs, tries 2, token 3, until 24");
            x.tick(1);
            Due.is("closed", Words.task(x, 0), "of 0, activity 1, closed, tries 3, token 3, until 0");
            Due.is("FAILED", Words.history(x, 0), "STARTED 0, SCHEDULED 1, FAILED 0, END 2");
        });
        Due.holds("with 3 its workflow gets FAILED // the tries of each task are its own", () -> {
            Loomkeeper x = one();
            x.fail(x.poll());
            x.tick(2);
            x.fail(x.poll());
            x.tick(4);
            x.complete(x.poll(), 5);
            x.fail(x.poll());
            Due.is("the first one", Words.task(x, 0), "of 0, activity 1, closed, tries 2, token 3, until 0");
            Due.is("the next one", Words.task(x, 1), "of 0, activity 2, rests, tries 1, token 4, until 8");
        });
    }

    private static void tokens() {
        Due.holds("with any other token nothing happens", () -> {
            Loomkeeper x = one();
            start(x, 0, 1);
            x.fail(x.poll());
            x.tick(2);
            x.poll();
            x.poll();
            x.complete(3, 5);
            String before = Words.all(x);
            for (int token : new int[] {Integer.MIN_VALUE, -2, -1, 0, 1, 3, 4, 5, Integer.MAX_VALUE}) {
                Due.is("complete " + token, x.complete(token, 9), false);
                Due.is("fail " + token, x.fail(token), false);
                Due.is("beat " + token, x.beat(token), false);
            }
            Due.is("all is as it was", Words.all(x), before);
            Due.is("the one that runs", x.beat(2), true);
        });
        Due.holds("with any other token nothing happens // 0, of a task without one", () -> {
            Loomkeeper x = one();
            Due.is("complete", x.complete(0, 9), false);
            Due.is("fail", x.fail(0), false);
            Due.is("beat", x.beat(0), false);
            Due.is("as it was", Words.task(x, 0), "of 0, activity 1, ready, tries 0, token 0, until 0");
        });
        Due.holds("Whoever tells the token of a task that runs can complete it, fail it, or beat", () -> {
            Loomkeeper x = one();
            start(x, 2, 1);
            x.poll();
            x.poll();
            Due.is("the second one first", x.complete(2, -5), true);
            Due.is("its workflow", x.about(1, 2), -5);
            Due.is("then the first one", x.fail(1), true);
            Due.is("not again", x.fail(1), false);
        });
    }

    private static void closing() {
        Due.holds("a task is closed as soon as its workflow does not wait for it any more, or its result came", () -> {
            Loomkeeper x = Words.keeper("UNDO 7", "CALL 1");
            x.start(0, 0);
            x.start(0, 0);
            x.poll();
            x.complete(1, 3);
            x.cancel(1);
            Due.is("by its result", Words.task(x, 0), "of 0, activity 1, closed, tries 0, token 1, until 0");
            Due.is("by ASKED", Words.task(x, 1), "of 1, activity 1, closed, tries 0, token 0, until 0");
            Due.is("by which it undoes", Words.task(x, 2), "of 1, activity 7, ready, tries 0, token 0, until 0");
            x.complete(x.poll(), 3);
            Due.is("undone", Words.task(x, 2), "of 1, activity 7, closed, tries 0, token 2, until 0");
        });
        Due.holds("a task is closed as soon as its workflow does not wait for it any more // by code without the shield", () -> {
            Loomkeeper x = Words.keeper("SHIELD", "CALL 1");
            x.start(0, 0);
            x.poll();
            x.cancel(0);
            Due.is("it runs", Words.task(x, 0), "of 0, activity 1, runs, tries 0, token 1, until 6");
            Words.set(x, 0, 0, "ADD 0");
            Due.is("closed", Words.task(x, 0), "of 0, activity 1, closed, tries 0, token 1, until 0");
            Due.is("state", x.state(0), 3);
        });
        Due.holds("the child is asked as well // the tasks of children are closed", () -> {
            Loomkeeper x = Words.keeper("CHILD 1");
            Words.code(x, 1, "CHILD 2");
            Words.code(x, 2, "CALL 1");
            x.start(0, 0);
            x.poll();
            x.cancel(0);
            Due.is("closed", Words.task(x, 0), "of 2, activity 1, closed, tries 0, token 1, until 0");
        });
    }

    private static void ticking() {
        Due.holds("then for the tasks by rising numbers: those that run or rest until now", () -> {
            Loomkeeper x = Words.keeper("UNDO 1", "CALL 1");
            for (int i = 0; i < 3; i++) {
                x.start(0, 0);
            }
            for (int t = 1; t <= 9; t++) {
                x.poll();
                if (t % 3 == 0) {
                    x.tick(t == 9 ? 6 : 10);
                }
            }
            for (int i = 0; i < 3; i++) {
                Due.is("undone by rising numbers", Words.task(x, 3 + i), "of " + i + ", activity 1, ready, tries 0, token 0, until 0");
            }
        });
        Due.holds("then for the workflows by rising numbers", () -> {
            Loomkeeper x = Words.keeper("TIMER 2", "CALL 1");
            Words.code(x, 1, "SELECT 1 2", "CALL 1");
            for (int i = 0; i < 4; i++) {
                x.start(i % 2, 0);
            }
            x.tick(2);
            for (int i = 0; i < 4; i++) {
                Due.is("task " + i, x.task(i, 0), i);
            }
        });
        Due.holds("A tick: now is 1 more; then for the tasks by rising numbers // and then for the workflows", () -> {
            Loomkeeper x = Words.keeper("TIMER 6", "CALL 5");
            Words.code(x, 1, "UNDO 8", "CALL 1");
            x.start(1, 0);
            x.fail(x.poll());
            x.tick(2);
            x.fail(x.poll());
            x.tick(4);
            x.start(0, 0);
            x.poll();
            x.tick(6);
            // At one tick the task is over for the third time, and the timer is due.
            Due.is("the task goes first", Words.task(x, 1), "of 0, activity 8, ready, tries 0, token 0, until 0");
            Due.is("then the timer", Words.task(x, 2), "of 1, activity 5, ready, tries 0, token 0, until 0");
        });
        Due.holds("Lets ticks pass. // one by one", () -> {
            Loomkeeper x = Words.keeper("TIMER 1", "JUMP 0");
            Loomkeeper y = Words.keeper("TIMER 1", "JUMP 0");
            for (Loomkeeper z : new Loomkeeper[] {x, y}) {
                start(z, 1, 1);
                z.start(0, 0);
                z.poll();
            }
            x.tick(17);
            for (int i = 0; i < 17; i++) {
                y.tick(1);
            }
            Due.is("17 at once", Words.all(x), Words.all(y));
            Due.is("a timer at each tick", x.events(1), 1 + 2 * 17 + 1);
        });
        Due.holds("then for the workflows by rising numbers // a timer that starts at a tick waits for the next one", () -> {
            Loomkeeper x = Words.keeper("TIMER 0", "TIMER 0", "AWAIT 1");
            x.start(0, 0);
            x.tick(1);
            Due.is("one at a time", Words.history(x, 0), "STARTED 0, TIMER 1, FIRED 0, TIMER 2");
            x.tick(1);
            Due.is("both", Words.where(x, 0), "at 3, value 0, signal 1");
        });
    }

    private static void room() {
        Due.holds("Workflows are numbered from 0, at most 40.", () -> {
            Loomkeeper x = new Loomkeeper();
            for (int i = 0; i < 40; i++) {
                Due.is("start", x.start(i % 6, i), i);
                Due.is("workflows", x.workflows(), i + 1);
            }
            String before = Words.all(x);
            Due.throwsState("the 41st", () -> x.start(0, 0));
            Due.throwsState("the 41st by reset", () -> x.reset(0, 1));
            Due.is("workflows", x.workflows(), 40);
            Due.is("all is as it was", Words.all(x), before);
            Due.throwsIndex("the 41st", () -> x.state(40));
        });
        Due.holds("Throws `IllegalStateException` if there are 40 // with one room left", () -> {
            Loomkeeper x = new Loomkeeper();
            for (int i = 0; i < 39; i++) {
                x.start(0, i);
            }
            Due.is("reset", x.reset(7, 1), 39);
            Due.throwsState("no more", () -> x.reset(7, 1));
            Due.throwsState("no more", () -> x.start(0, 0));
        });
    }

    private static void goingOn() {
        Due.holds("A workflow that is started goes on at once, ahead of the next step of the one that started it", () -> {
            Loomkeeper x = Words.keeper("START 1", "CHANCE 99", "CHILD 1", "CHANCE 99");
            Words.code(x, 1, "CHANCE 99");
            x.start(0, 0);
            // 49, 49, 5 and 14 are drawn one after the other.
            Due.is("the first one started", Words.history(x, 1), "STARTED 0, DREW 49, END 491");
            Due.is("the second one", Words.event(x, 2, 1), "DREW " + 57305 % 100);
            Due.is("the one that started them", Words.history(x, 0).replaceAll(", DREW [0-9]+, END.*", ""),
                "STARTED 0, BEGAN 1, DREW 49, CHILD 2, ENDED " + (57305 % 100 * 10 + 1));
        });
        Due.holds("that gets ENDED, and goes on when what is going on ahead of it is over", () -> {
            Loomkeeper x = Words.keeper("CHILD 1", "CALL 5");
            Words.code(x, 1, "AWAIT 1", "BRANCH 5", "START 2", "END");
            Words.set(x, 1, 5, "START 3");
            Words.code(x, 2, "CALL 6");
            Words.code(x, 3, "CHILD 4", "CALL 7");
            Words.code(x, 4, "START 2");
            x.start(0, 0);
            x.signal(1, 1, 0);
            // 1 starts 2 (of 3), that waits for 3 (of 4), that starts 4 (of 2).
            Due.is("the one started last", x.task(0, 0), 4);
            Due.is("the one behind its child", x.task(1, 0), 2);
            Due.is("the parent", x.task(2, 0), 0);
            Due.is("the parent", Words.history(x, 0), "STARTED 0, CHILD 1, ENDED 21, SCHEDULED 5");
        });
        Due.holds("when one ends (but as new), and its parent waits for it // a parent that waits for another one", () -> {
            Loomkeeper x = Words.keeper("START 1", "CHILD 1");
            Words.code(x, 1, "AWAIT 1");
            x.start(0, 0);
            x.signal(1, 1, 5);
            Due.is("the one that is not waited for", Words.history(x, 0), "STARTED 0, BEGAN 1, CHILD 2");
            x.signal(2, 1, 6);
            Due.is("the one that is", Words.history(x, 0), "STARTED 0, BEGAN 1, CHILD 2, ENDED 61, END 61");
        });
        Due.holds("when one ends (but as new), and its parent waits for it // a parent that does not any more", () -> {
            Loomkeeper x = Words.keeper("UNDO 1", "CHILD 1");
            Words.code(x, 1, "SHIELD", "AWAIT 1");
            x.start(0, 0);
            x.cancel(0);
            x.signal(1, 1, 5);
            Due.is("the child ends well in its shield", x.state(1), 1);
            Due.is("the parent undoes", Words.history(x, 0), "STARTED 0, CHILD 1, ASKED 0, UNDOES 1");
            x.complete(x.poll(), 0);
            Due.is("the parent", x.state(0), 3);
        });
    }
}
