/** "Programs" of the Terms: how many steps a workflow makes, and which of them fail instead. */
public final class StepEdgesTest {
    /** Calls that bring a workflow on. */
    private interface Push {
        void on(Loomkeeper x);
    }

    public static void main(String[] args) {
        behindSixtyEvents();
        neverRefused();
        twentyOnThePile();
        sixtySteps();
        countedAnew();
        notCountedAnew();
        Due.end();
    }

    /** It made the step behind so many events, the last one being a signal with 7. */
    private static Loomkeeper behind(int events, String... steps) {
        Loomkeeper x = Words.keeper("AWAIT 1");
        for (int i = 0; i < steps.length; i++) {
            Words.set(x, 0, i + 1, steps[i]);
        }
        Words.code(x, 3, "AWAIT 0");
        x.start(0, 2);
        Due.is("signals ahead of it", Words.fill(x, 0, events - 2), true);
        Due.is("the signal", x.signal(0, 1, 7), true);
        return x;
    }

    private static void behindSixtyEvents() {
        String[] steps = {"CALL 3", "TIMER 3", "SELECT 3 3", "CHILD 3", "START 3", "CHANCE 3", "MARK 3", "AS_NEW"};
        String[] events = {"SCHEDULED 3", "TIMER 3", "TIMER 3", "CHILD 1", "BEGAN 1", "DREW 1", "MARKED 3", "BEGAN 1"};
        for (int i = 0; i < steps.length; i++) {
            String step = steps[i];
            String event = events[i];
            Due.holds("When 60 events or more are behind it in its history, these steps fail instead: // " + step, () -> {
                Due.is("behind 59", Words.event(behind(59, step, "AWAIT 2"), 0, 59), event);
                for (int n : new int[] {60, 61, 89, 90}) {
                    Loomkeeper x = behind(n, step, "AWAIT 2");
                    Due.is("behind " + n, Words.history(x, 0, n), "END 72");
                    Due.is("behind " + n, Words.where(x, 0), "at 2, value 7, kept " + (n - 2));
                    Due.is("nothing is started or scheduled", x.workflows() + x.tasks(), 1);
                }
            });
        }
        Due.holds("When 60 events or more are behind it in its history // those of steps count as well", () -> {
            // 59 events behind the first one, none of which is a signal, and 19 steps until it waits.
            Loomkeeper x = new Loomkeeper();
            for (int i = 0; i < 19; i++) {
                x.set(0, i, Due.CHANCE, i, 0);
            }
            Words.set(x, 0, 19, "AWAIT 1");
            x.start(0, 0);
            x.signal(0, 1, 0);
            x.signal(0, 1, 0);
            Due.is("events", x.events(0), 60);
            Due.is("it waits", Words.where(x, 0), "at 0, value " + x.number(0, 59) + ", signal 1");
            x.signal(0, 1, 9);
            Due.is("the next CHANCE fails", Words.history(x, 0, 60), "SIGNAL 109, END 92");
        });
        Due.holds("When 60 events or more are behind it in its history // a MARK that is replayed ahead of a signal", () -> {
            for (int n = 59; n <= 60; n++) {
                Loomkeeper x = behind(n, "ADD 0", "AWAIT 2", "AWAIT 3");
                x.signal(0, 2, 8);
                Due.is("a MARK behind " + n, Words.set(x, 0, 1, "MARK 3"), n - 59);
                Due.is("where it is", Words.where(x, 0), n == 59 ? "at 4, value 8, signal 3, kept 57" : "astray");
            }
        });
        Due.holds("When 60 events or more are behind it in its history // a step within one that has more", () -> {
            Loomkeeper x = Words.keeper("CALL 1", "AWAIT 1", "AWAIT 2");
            x.start(0, 2);
            Words.fill(x, 0, 70);
            Due.is("the CALL is behind one event", Words.where(x, 0), "at 1, value 2, activity 0, kept 70");
            Due.is("crash", x.crash(), 1);
            Due.is("found again", Words.where(x, 0), "at 1, value 2, activity 0, kept 70");
        });
    }

    private static void neverRefused() {
        String[] steps = {"END", "AWAIT 4", "SELECT 98 5", "AWAIT 98", "BRANCH 9", "JUMP 2", "ADD 5", "TAKE 5", "UNDO 5",
            "SHIELD", "OPEN"};
        for (String step : steps) {
            Due.holds("When 60 events or more are behind it in its history // but not " + step, () -> {
                for (int n : new int[] {59, 60, 61, 89, 90}) {
                    Loomkeeper x = behind(n, step, "AWAIT 2");
                    int value = step.equals("ADD 5") ? 12 : step.equals("TAKE 5") ? 2
                        : step.equals("SELECT 98 5") ? 1 : step.equals("AWAIT 98") ? 0 : 7;
                    int kept = step.endsWith("T 98") || step.startsWith("SELECT") ? n - 3 : n - 2;
                    String at = step.equals("END") ? "at 2, value 7" : step.equals("AWAIT 4")
                        ? "at 2, value 7, signal 4" : "at 3, value " + value + ", signal 2";
                    String more = step.equals("UNDO 5") ? ", pile 1" : step.equals("SHIELD") ? ", shield" : "";
                    Due.is("behind " + n, Words.where(x, 0), at + more + ", kept " + kept);
                    Due.is("behind " + n, Words.history(x, 0, n), step.equals("END") ? "END 71" : "");
                }
            });
        }
        Due.holds("each one as an activity that is scheduled and waited for // behind 90 events", () -> {
            Loomkeeper x = behind(90, "UNDO 6", "FAIL");
            Due.is("it undoes", Words.where(x, 0), "at 3, value 7, undoing 0, will end 2, kept 88");
            x.complete(x.poll(), 4);
            Due.is("it undoes", Words.history(x, 0, 90), "UNDOES 6, DONE 4, END 72");
        });
    }

    private static void twentyOnThePile() {
        Due.holds("likewise an UNDO, when 20 are on the pile.", () -> {
            Loomkeeper x = Words.keeper("AWAIT 1", "UNDO 3", "JUMP 0");
            x.start(0, 0);
            for (int i = 1; i <= 20; i++) {
                x.signal(0, 1, i);
                Due.is("UNDO " + i, Words.where(x, 0), "at 1, value " + i + ", signal 1, pile " + i);
            }
            x.signal(0, 1, 21);
            Due.is("the 21st", Words.where(x, 0), "at 2, value 21, undoing 0, pile 19, will end 2");
            for (int i = 0; i < 20; i++) {
                Due.is("state", x.state(0), 0);
                x.complete(x.poll(), i);
            }
            Due.is("how it ended", x.state(0), 2);
            Due.is("tasks", x.tasks(), 20);
            Due.is("all undone", Words.where(x, 0), "at 2, value 21");
        });
        Due.holds("a is put on the pile of what is to be undone // from 0 to 99, none of them twice", () -> {
            Loomkeeper x = Words.keeper("UNDO 99", "UNDO 0", "UNDO 99", "FAIL");
            x.start(0, 1);
            x.complete(x.poll(), 1);
            x.complete(x.poll(), 1);
            x.complete(x.poll(), 1);
            Due.is("undone", Words.history(x, 0), "STARTED 1, UNDOES 99, DONE 1, UNDOES 0, DONE 1, UNDOES 99, DONE 1, END 12");
            Loomkeeper y = Words.keeper("FAIL");
            y.start(0, 1);
            Due.is("an empty pile", Words.history(y, 0), "STARTED 1, END 12");
            Due.is("no task", y.tasks(), 0);
        });
    }

    /** The step is made behind 59 or 60 others, with the value 0. */
    private static Loomkeeper countdown(int steps, String step) {
        // 19 times three steps and a BRANCH make 58.
        Loomkeeper x = Words.keeper("BRANCH 9", "TAKE 1", "JUMP 0");
        Words.set(x, 0, 9, "ADD 0");
        Words.set(x, 0, 10, steps == 59 ? step : "ADD 0");
        Words.set(x, 0, 11, steps == 59 ? "END" : step);
        Words.code(x, 3, "AWAIT 0");
        x.start(0, 19);
        return x;
    }

    private static void sixtySteps() {
        String[] steps = {"END", "CALL 3", "TIMER 3", "AWAIT 3", "SELECT 3 3", "CHILD 3", "START 3", "CHANCE 99",
            "MARK 3", "ADD 5", "TAKE 5", "UNDO 5", "AS_NEW"};
        // As the 60th step; those that do not wait fail by the step behind it, which is the 61st one.
        String[] due = {"END 1", "SCHEDULED 3", "TIMER 3", "", "TIMER 3", "CHILD 1", "BEGAN 1, END 12", "DREW 49, END 492",
            "MARKED 3, END 12", "END 52", "END -48", "UNDOES 5", "BEGAN 1, END 4"};
        for (int i = 0; i < steps.length; i++) {
            String step = steps[i];
            String event = due[i];
            Due.holds("the 61st one since it began or took an event that comes of no step fails instead. // " + step, () -> {
                Loomkeeper x = countdown(59, step);
                Due.is("the 60th step", Words.history(x, 0, 1), event);
                Loomkeeper y = countdown(60, step);
                Due.is("the 61st step", Words.history(y, 0), "STARTED 19, END 2");
                Due.is("the 61st step", Words.where(y, 0), "at 12, value 0");
                Due.is("nothing is started or scheduled", y.workflows() + y.tasks(), 1);
            });
        }
        Due.holds("the 61st one since it began or took an event that comes of no step fails instead. // JUMP, BRANCH, SHIELD",
            () -> {
                Due.is("JUMP as the 60th", Words.where(countdown(59, "JUMP 15"), 0), "at 16, value 0");
                Due.is("JUMP as the 61st", Words.where(countdown(60, "JUMP 15"), 0), "at 12, value 0");
                Due.is("BRANCH as the 60th", Words.where(countdown(59, "BRANCH 15"), 0), "at 16, value 0");
                Due.is("BRANCH as the 61st", Words.where(countdown(60, "BRANCH 15"), 0), "at 12, value 0");
                Due.is("SHIELD as the 60th", Words.where(countdown(59, "SHIELD"), 0), "at 12, value 0, shield");
                Due.is("SHIELD as the 61st", Words.where(countdown(60, "SHIELD"), 0), "at 12, value 0");
            });
        Due.holds("A workflow makes steps until it waits or has ended", () -> {
            Loomkeeper x = Words.keeper("JUMP 0");
            x.start(0, 6);
            Due.is("it does not go on for ever", Words.history(x, 0), "STARTED 6, END 62");
        });
    }

    /** The event comes behind some steps; then the 60th one since it waits, and the 61st one fails. */
    private static void anew(String name, String step, int more, Push push) {
        for (int extra = 0; extra < 2; extra++) {
            Loomkeeper x = Words.keeper("ADD 1", "TAKE 1", step, "ADD " + more, "BRANCH 9", "TAKE 1", "JUMP 4");
            Words.set(x, 0, 9, "ADD 0");
            Words.set(x, 0, 9 + extra, "AWAIT 5");
            Words.code(x, 1, "AWAIT 1");
            x.start(0, 19);
            // ADD, 19 times three steps, and BRANCH: 59.
            push.on(x);
            Due.is(name + ", " + (60 + extra), Words.where(x, 0), extra == 0 ? "at 10, value 0, signal 5" : "at 11, value 0");
            Due.is(name + ", " + (60 + extra), x.state(0), extra == 0 ? 0 : 2);
        }
    }

    private static void countedAnew() {
        String words = "since it began or took an event that comes of no step // ";
        Due.holds(words + "DONE", () -> anew("CALL", "CALL 1", 1, x -> x.complete(x.poll(), 18)));
        Due.holds(words + "FIRED", () -> {
            anew("TIMER", "TIMER 1", 0, x -> x.tick(1));
            anew("SELECT", "SELECT 1 1", 19, x -> x.tick(1));
        });
        Due.holds(words + "SIGNAL", () -> {
            anew("AWAIT", "AWAIT 1", 0, x -> x.signal(0, 1, 19));
            anew("SELECT", "SELECT 1 1", 18, x -> x.signal(0, 1, 3));
        });
        Due.holds(words + "ENDED", () -> {
            anew("CHILD", "CHILD 1", 0, x -> x.signal(1, 1, 19));
            anew("CHILD that ends at once", "CHILD 2", 0, x -> x.crash());
        });
        Due.holds(words + "found again behind a crash", () -> anew("AWAIT", "AWAIT 1", 0, x -> {
            x.crash();
            x.signal(0, 1, 19);
            x.crash();
        }));
    }

    private static void notCountedAnew() {
        String words = "since it began or took an event that comes of no step // not by ";
        Due.holds(words + "DREW", () -> {
            Loomkeeper x = Words.keeper("CHANCE 0", "JUMP 0");
            x.start(0, 1);
            Due.is("events", x.events(0), 1 + 30 + 1);
            Due.is("the last ones", Words.history(x, 0, 30), "DREW 0, END 2");
        });
        Due.holds(words + "MARKED", () -> {
            Loomkeeper x = Words.keeper("MARK 4", "JUMP 0");
            x.start(0, 1);
            Due.is("events", x.events(0), 1 + 30 + 1);
            Due.is("the last ones", Words.history(x, 0, 30), "MARKED 4, END 12");
        });
        Due.holds(words + "BEGAN", () -> {
            Loomkeeper x = Words.keeper("START 1", "JUMP 0");
            x.start(0, 1);
            Due.is("events", x.events(0), 1 + 30 + 1);
            Due.is("the last ones", Words.history(x, 0, 30), "BEGAN 30, END 302");
            Due.is("workflows", x.workflows(), 31);
        });
        for (String step : new String[] {"AWAIT 98", "SELECT 98 1"}) {
            Due.holds(words + "a kept signal, " + step, () -> {
                Loomkeeper x = Words.keeper("TIMER 1", step, "JUMP 1");
                x.start(0, 1);
                Words.fill(x, 0, 40);
                x.tick(1);
                Due.is("30 are used up", Words.where(x, 0), "at 2, value " + (step.startsWith("A") ? 0 : 1) + ", kept 10");
                Due.is("how it ended", x.state(0), 2);
            });
        }
    }
}
