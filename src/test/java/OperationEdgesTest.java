/** "Programs" of the Terms: the edges of what each operation does, and of its numbers. */
public final class OperationEdgesTest {
    public static void main(String[] args) {
        programs();
        values();
        ticks();
        places();
        startedPrograms();
        chance();
        Due.end();
    }

    private static void programs() {
        Due.holds("There are the programs 0 to 5, each with the steps 0 to 19, END at first", () -> {
            for (int program = 0; program < 6; program++) {
                Loomkeeper x = new Loomkeeper();
                for (int step = 0; step < 20; step++) {
                    Words.set(x, program, step, step < 19 ? "ADD 1" : "FAIL");
                }
                for (int started = 0; started < 6; started++) {
                    x.start(started, 4);
                    Due.is("program " + started, Words.history(x, started),
                        started == program ? "STARTED 4, END 232" : "STARTED 4, END 41");
                }
            }
        });
        Due.holds("(those that are not named are of no matter)", () -> {
            String[] named = {"END", "CALL 1", "TIMER 1", "AWAIT 2", "SELECT 2 1", "BRANCH 1", "JUMP 5", "ADD 1",
                "TAKE 1", "CHILD 1", "START 1", "CHANCE 1", "UNDO 1", "FAIL", "MARK 1", "SHIELD", "OPEN", "AS_NEW"};
            for (String step : named) {
                String filled = step + (step.contains(" ") ? "" : " 99") + " 99";
                Loomkeeper x = Words.keeper("AWAIT 3", step, "AWAIT 4");
                Loomkeeper y = Words.keeper("AWAIT 3", step.startsWith("SELECT") ? step : filled, "AWAIT 4");
                for (Loomkeeper z : new Loomkeeper[] {x, y}) {
                    z.start(0, 0);
                    z.signal(0, 3, 7);
                }
                Due.is(step, Words.all(y), Words.all(x));
            }
        });
        Due.holds("Behind a step the next one follows, behind 19 the step 0.", () -> {
            Loomkeeper x = Words.keeper("AWAIT 0", "JUMP 19");
            Words.set(x, 0, 19, "ADD 30");
            x.start(0, 0);
            x.signal(0, 0, 5);
            Due.is("behind 19", Words.where(x, 0), "at 1, value 35, signal 0");
            Words.set(x, 0, 19, "AWAIT 9");
            Due.is("the place behind the step 19", Words.where(x, 0), "at 0, value 5, signal 9");
        });
    }

    private static void values() {
        Due.holds("a value, an int, which goes round, its input at first", () -> {
            for (String step : new String[] {"ADD 99", "TAKE 99"}) {
                Loomkeeper x = new Loomkeeper();
                for (int i = 0; i < 19; i++) {
                    Words.set(x, 3, i, step);
                }
                Words.set(x, 3, 19, "AS_NEW");
                int sign = step.equals("ADD 99") ? 1 : -1;
                x.start(3, sign * 999);
                // 40 workflows of 19 steps each: no run of calls gets an int to its end.
                Due.is("the last one", Words.history(x, 39), "STARTED " + sign * (999 + 39 * 1881)
                    + ", BEGAN -1, END " + (sign * (999 + 40 * 1881) * 10 + 2));
                Due.is("the last one", Words.where(x, 39), "at 0, value " + sign * (999 + 40 * 1881));
                Due.is("the first one", Words.history(x, 0), "STARTED " + sign * 999 + ", BEGAN 1, END "
                    + (sign * 28800 + 4));
                Due.is("how the first one ended", x.state(0), 4);
                Due.is("how the last one ended", x.state(39), 2);
            }
        });
        Due.holds("7 ADD a: the value is a more;  8 TAKE a: the value is a less;", () -> {
            int[][] due = {{0, 0, 0}, {99, 0, 99}, {0, 99, -99}, {1, 99, -98}};
            for (int[] d : due) {
                Loomkeeper x = Words.keeper("ADD " + d[0], "TAKE " + d[1]);
                x.start(0, 0);
                Due.is("ADD and TAKE", Words.history(x, 0), "STARTED 0, END " + (10 * d[2] + 1));
            }
        });
        Due.holds("13 END 10 times the value, and how it ended; // of values below 0", () -> {
            for (int value : new int[] {-999, -10, -1, 0, 1, 10, 999}) {
                Loomkeeper x = Words.keeper("AWAIT 1");
                Words.code(x, 1, "FAIL");
                x.start(2, value);
                x.start(1, value);
                x.start(0, value);
                x.cancel(2);
                for (int how = 1; how <= 3; how++) {
                    Due.is("state", x.state(how - 1), how);
                    Due.is("END", x.number(how - 1, x.events(how - 1) - 1), 10 * value + how);
                    Due.is("value", x.about(how - 1, 2), value);
                }
            }
        });
        Due.holds("the value is its result // from -999 to 999", () -> {
            for (int result : new int[] {-999, 0, 999}) {
                Loomkeeper x = Words.keeper("CALL 1");
                x.start(0, 5);
                x.complete(x.poll(), result);
                Due.is("CALL", Words.history(x, 0), "STARTED 5, SCHEDULED 1, DONE " + result + ", END "
                    + (10 * result + 1));
            }
        });
        Due.holds("the value is what comes with it // from 0 to 99, by signals from 0 to 99", () -> {
            for (int with : new int[] {0, 1, 99}) {
                for (int signal : new int[] {0, 1, 99}) {
                    Loomkeeper x = Words.keeper("AWAIT " + signal, "AWAIT 50");
                    x.start(0, 5);
                    x.signal(0, signal == 99 ? 98 : signal + 1, 44);
                    Due.is("the signal beside it", Words.where(x, 0), "at 1, value 5, signal " + signal + ", kept 1");
                    x.signal(0, signal, with);
                    Due.is("AWAIT", Words.where(x, 0), "at 2, value " + with + ", signal 50, kept 1");
                    Due.is("SIGNAL", x.number(0, 2), 100 * signal + with);
                }
            }
        });
    }

    private static void ticks() {
        int[] ticks = {0, 1, 2, 99};
        Due.holds("2 TIMER a: it waits for a ticks, at least 1", () -> {
            for (int a : ticks) {
                firesAt("TIMER " + a, Math.max(1, a), "timer " + (5 + Math.max(1, a)), 8);
            }
        });
        Due.holds("4 SELECT a b: it waits for a signal a, or b ticks, at least 1", () -> {
            for (int b : ticks) {
                firesAt("SELECT 7 " + b, Math.max(1, b), "signal or ticks 7", 0);
            }
        });
        Due.holds("2 TIMER a: it waits for a ticks, at least 1 // behind a step that waited for a signal", () -> {
            for (String step : new String[] {"AWAIT 9", "SELECT 9 5"}) {
                Loomkeeper x = Words.keeper(step, "ADD 3", "TIMER 2", "AWAIT 5");
                x.start(0, 8);
                x.signal(0, 9, 1);
                Due.is("it waits for ticks alone", Words.where(x, 0), "at 3, value 4, timer 2");
                x.signal(0, 9, 7);
                Due.is("a signal is kept", Words.where(x, 0), "at 3, value 4, timer 2, kept 1");
                x.tick(2);
                Due.is("the value stays", Words.where(x, 0), "at 4, value 4, signal 5, kept 1");
            }
        });
        Due.holds("the value is 1 for the signal, 0 for the ticks // the signal at the last tick", () -> {
            Loomkeeper x = Words.keeper("SELECT 99 2", "AWAIT 5");
            x.start(0, 8);
            x.tick(1);
            x.signal(0, 98, 3);
            Due.is("another signal", Words.where(x, 0), "at 1, value 8, signal or ticks 99, kept 1");
            x.signal(0, 99, 0);
            Due.is("the signal", Words.where(x, 0), "at 2, value 1, signal 5, kept 1");
            x.tick(9);
            Due.is("no FIRED then", Words.history(x, 0), "STARTED 8, TIMER 2, SIGNAL 9803, SIGNAL 9900");
        });
    }

    /** A workflow with the value 8, started at 5, that begins with the step, waits for so many ticks. */
    private static void firesAt(String step, int ticks, String waits, int value) {
        Loomkeeper x = Words.keeper(step, "AWAIT 5");
        x.tick(5);
        x.start(0, 8);
        for (int i = 1; i < ticks; i++) {
            x.tick(1);
        }
        Due.is(step, Words.where(x, 0), "at 1, value 8, " + waits);
        x.tick(1);
        Due.is(step, Words.history(x, 0), "STARTED 8, TIMER " + (5 + ticks) + ", FIRED 0");
        Due.is(step, Words.where(x, 0), "at 2, value " + value + ", signal 5");
    }

    private static void places() {
        int[] places = {0, 2, 18, 19, 20, 22, 39, 40, 60, 80, 98, 99};
        Due.holds("6 JUMP a: the next step is a modulo 20;", () -> {
            for (int a : places) {
                goesTo("JUMP " + a, 0, a % 20);
                goesTo("JUMP " + a, 1, a % 20);
            }
        });
        Due.holds("5 BRANCH a: if the value is 0, the next step is a modulo 20;", () -> {
            for (int a : places) {
                goesTo("BRANCH " + a, 0, a % 20);
                goesTo("BRANCH " + a, 1, 2);
                goesTo("BRANCH " + a, 99, 2);
            }
            Loomkeeper x = Words.keeper("TAKE 1", "BRANCH 10", "AWAIT 3");
            x.start(0, 0);
            Due.is("-1 is not 0", Words.where(x, 0), "at 3, value -1, signal 3");
        });
    }

    /** Of steps that wait each for a signal of its own number, but for the step 1. */
    private static void goesTo(String step, int value, int due) {
        Loomkeeper x = new Loomkeeper();
        for (int i = 0; i < 20; i++) {
            Words.set(x, 0, i, i == 1 ? step : "AWAIT " + i);
        }
        x.start(0, 5);
        x.signal(0, 0, value);
        Due.is(step, Words.where(x, 0), "at " + (due + 1) % 20 + ", value " + value + ", signal " + due);
    }

    private static void startedPrograms() {
        int[] numbers = {0, 1, 5, 6, 7, 11, 12, 95, 96, 98, 99};
        Due.holds("9 CHILD a: a workflow of the program a modulo 6 is started with the value as its input", () -> {
            for (int a : numbers) {
                Due.is("CHILD " + a, Words.where(starter("CHILD " + a, a), 0), "at 2, value -6, child 1");
            }
        });
        Due.holds("10 START a: likewise, but it is not waited for; the value is its number;", () -> {
            for (int a : numbers) {
                Due.is("START " + a, Words.where(starter("START " + a, a), 0), "at 3, value 1, signal 4");
            }
        });
    }

    private static Loomkeeper starter(String step, int a) {
        Loomkeeper x = new Loomkeeper();
        int program = (a + 1) % 6;
        for (int i = 0; i < 6; i++) {
            Words.code(x, i, i == program ? "TAKE 9" : "AWAIT 1");
        }
        Words.code(x, program, "TAKE 9", step, "AWAIT 4");
        x.start(program, 3);
        Due.is("workflows of " + step, x.workflows(), 2);
        Due.is("program of " + step, x.about(1, 0), a % 6);
        Due.is("input of " + step, Words.history(x, 1), "STARTED -6");
        Due.is("parent of " + step, x.parent(1), step.startsWith("CHILD") ? 0 : -1);
        return x;
    }

    private static void chance() {
        Due.holds("11 CHANCE a: the value is a number from 0 to a, drawn; // from 0 to 0", () -> {
            Loomkeeper x = Words.keeper("CHANCE 0", "CHANCE 0");
            x.start(0, 5);
            Due.is("CHANCE 0", Words.history(x, 0), "STARTED 5, DREW 0, DREW 0, END 1");
            Loomkeeper y = Words.keeper("CHANCE 99");
            y.start(0, 5);
            Due.is("CHANCE 99 first", Words.history(y, 0), "STARTED 5, DREW 49, END 491");
        });
        Due.holds("Chance: x, 1 at first, becomes 75 times x and 74, together, modulo 65537;", () -> {
            int[] most = {0, 1, 2, 3, 4, 5, 7, 9, 10, 19, 31, 49, 50, 63, 77, 96, 97, 98, 99};
            Loomkeeper x = new Loomkeeper();
            for (int i = 0; i < most.length; i++) {
                x.set(2, i, Due.CHANCE, most[i], 0);
            }
            long drawn = 1;
            for (int w = 0; w < 40; w++) {
                x.start(2, 0);
                for (int i = 0; i < most.length; i++) {
                    drawn = (75 * drawn + 74) % 65537;
                    Due.is("the number " + i + " of " + w, x.number(w, i + 1), drawn % (most[i] + 1));
                }
            }
        });
    }
}
