/** Programs, histories, and what there is, as texts by the names of the document. */
final class Words {
    private static final String[] OPERATIONS = {"END", "CALL", "TIMER", "AWAIT", "SELECT", "BRANCH", "JUMP", "ADD",
        "TAKE", "CHILD", "START", "CHANCE", "UNDO", "FAIL", "MARK", "SHIELD", "OPEN", "AS_NEW"};
    private static final String[] EVENTS = {"STARTED", "SCHEDULED", "DONE", "FAILED", "TIMER", "FIRED", "SIGNAL",
        "CHILD", "ENDED", "DREW", "MARKED", "UNDOES", "ASKED", "END", "BEGAN"};
    private static final String[] WAITS = {"", "activity", "timer", "signal", "signal or ticks", "child", "undoing"};
    private static final String[] HOW = {"ready", "runs", "rests", "closed"};

    private Words() {
    }

    /** A new object with a program 0: a step is an operation and its numbers, as in "SELECT 1 30". */
    static Loomkeeper keeper(String... steps) {
        Loomkeeper x = new Loomkeeper();
        code(x, 0, steps);
        return x;
    }

    /** Sets the steps of a program from 0 on. */
    static void code(Loomkeeper x, int program, String... steps) {
        for (int i = 0; i < steps.length; i++) {
            set(x, program, i, steps[i]);
        }
    }

    static int set(Loomkeeper x, int program, int step, String text) {
        int[] s = step(text);
        return x.set(program, step, s[0], s[1], s[2]);
    }

    static int check(Loomkeeper x, int program, int step, String text) {
        int[] s = step(text);
        return x.check(program, step, s[0], s[1], s[2]);
    }

    private static int[] step(String text) {
        String[] parts = text.split(" ");
        int[] s = new int[3];
        while (s[0] < OPERATIONS.length && !OPERATIONS[s[0]].equals(parts[0])) {
            s[0]++;
        }
        for (int i = 1; i < parts.length; i++) {
            s[i] = Integer.parseInt(parts[i]);
        }
        return s;
    }

    /** Sends so many signals that nobody waits for; whether all of them came in. */
    static boolean fill(Loomkeeper x, int workflow, int signals) {
        boolean all = true;
        for (int i = 0; i < signals; i++) {
            all &= x.signal(workflow, 98, 0);
        }
        return all;
    }

    /** The events, as in "STARTED 4, SIGNAL 103, END 31". */
    static String history(Loomkeeper x, int workflow) {
        StringBuilder all = new StringBuilder();
        for (int i = 0; i < x.events(workflow); i++) {
            all.append(i == 0 ? "" : ", ").append(event(x, workflow, i));
        }
        return all.toString();
    }

    /** The events from one on. */
    static String history(Loomkeeper x, int workflow, int from) {
        StringBuilder all = new StringBuilder();
        for (int i = from; i < x.events(workflow); i++) {
            all.append(i == from ? "" : ", ").append(event(x, workflow, i));
        }
        return all.toString();
    }

    static String event(Loomkeeper x, int workflow, int event) {
        return EVENTS[x.kind(workflow, event)] + " " + x.number(workflow, event);
    }

    /**
     * What about() tells, as in "at 3, value 7, signal 1, pile 2, shield, will end 3, kept 4"; what is 0 is
     * left out from the third one on. It says so if aboutAnew() tells another thing.
     */
    static String where(Loomkeeper x, int workflow) {
        int[] is = new int[9];
        for (int what = 0; what < 9; what++) {
            try {
                is[what] = x.about(workflow, what);
                if (x.aboutAnew(workflow, what) != is[what]) {
                    return "about and aboutAnew differ in " + what;
                }
            } catch (IllegalStateException e) {
                return astray(x, workflow);
            }
        }
        StringBuilder all = new StringBuilder("at " + is[1] + ", value " + is[2]);
        if (is[3] != 0 || is[4] != 0) {
            all.append(", " + WAITS[is[3]] + " " + is[4]);
        }
        all.append(is[5] == 0 ? "" : ", pile " + is[5]).append(is[6] == 0 ? "" : is[6] == 1 ? ", shield" : ", shield?");
        all.append(is[7] == 0 ? "" : ", will end " + is[7]).append(is[8] == 0 ? "" : ", kept " + is[8]);
        return all.toString();
    }

    private static String astray(Loomkeeper x, int workflow) {
        for (int what = 0; what < 9; what++) {
            if (tells(x, workflow, what, false) || tells(x, workflow, what, true)) {
                return "astray, but told of";
            }
        }
        return "astray";
    }

    private static boolean tells(Loomkeeper x, int workflow, int what, boolean anew) {
        try {
            if (anew) {
                x.aboutAnew(workflow, what);
            } else {
                x.about(workflow, what);
            }
            return true;
        } catch (IllegalStateException e) {
            return false;
        }
    }

    /** What task() tells, as in "of 0, activity 7, runs, tries 1, token 4, until 9". */
    static String task(Loomkeeper x, int task) {
        return "of " + x.task(task, 0) + ", activity " + x.task(task, 1) + ", " + HOW[x.task(task, 2)]
            + ", tries " + x.task(task, 3) + ", token " + x.task(task, 4) + ", until " + x.task(task, 5);
    }

    /** All that can be seen. */
    static String all(Loomkeeper x) {
        StringBuilder all = new StringBuilder("now " + x.now() + "\n");
        for (int w = 0; w < x.workflows(); w++) {
            all.append(w).append(": state ").append(x.state(w)).append(" parent ").append(x.parent(w)).append(", ");
            all.append(where(x, w)).append(", ").append(history(x, w)).append("\n");
        }
        for (int t = 0; t < x.tasks(); t++) {
            all.append("task ").append(t).append(": ").append(task(x, t)).append("\n");
        }
        return all.toString();
    }
}
