import java.io.IOException;
import java.io.UncheckedIOException;
import java.nio.file.Files;
import java.nio.file.Path;

/** Compares answers with those that are due, and prints each one that is not. */
final class Due {
    // The operations, by the names of the document.
    static final int END = 0;
    static final int CALL = 1;
    static final int TIMER = 2;
    static final int AWAIT = 3;
    static final int SELECT = 4;
    static final int BRANCH = 5;
    static final int JUMP = 6;
    static final int ADD = 7;
    static final int TAKE = 8;
    static final int CHILD = 9;
    static final int START = 10;
    static final int CHANCE = 11;
    static final int UNDO = 12;
    static final int FAIL = 13;
    static final int MARK = 14;
    static final int SHIELD = 15;
    static final int OPEN = 16;
    static final int AS_NEW = 17;

    private static final String DOCUMENT = read();

    private static int answers = 0;
    private static int wrong = 0;
    /** The words of the document that the test at hand is for. */
    private static String words = "";

    interface Call {
        long answer();
    }

    private Due() {
    }

    /**
     * A test of its own for these words of the document, with the case behind " // " if there are several;
     * it may neither throw nor compare nothing.
     */
    static void holds(String document, Runnable test) {
        words = "\"" + document + "\": ";
        if (!DOCUMENT.contains(document.split(" // ")[0])) {
            tell("these words do not stand in the document");
        }
        int before = answers;
        try {
            test.run();
        } catch (RuntimeException e) {
            tell("the test threw " + e);
        }
        if (answers == before) {
            tell("the test compared nothing");
        }
        words = "";
    }

    private static String read() {
        try {
            return Files.readString(Path.of("../shared/DOC.md"));
        } catch (IOException e) {
            throw new UncheckedIOException(e);
        }
    }

    private static void tell(String what) {
        wrong++;
        System.out.println(words + what);
    }

    static void is(String what, long got, long due) {
        answers++;
        if (got != due) {
            tell(what + " answered " + got + ", due is " + due);
        }
    }

    static void is(String what, String got, String due) {
        answers++;
        if (!got.equals(due)) {
            tell(what + " is\n    " + got + "\n  due is\n    " + due);
        }
    }

    static void is(String what, boolean got, boolean due) {
        is(what, got ? 1 : 0, due ? 1 : 0);
    }

    /** The call throws an IndexOutOfBoundsException. */
    static void throwsIndex(String what, Call call) {
        throwsOne(what, call, IndexOutOfBoundsException.class);
    }

    static void throwsArgument(String what, Call call) {
        throwsOne(what, call, IllegalArgumentException.class);
    }

    static void throwsState(String what, Call call) {
        throwsOne(what, call, IllegalStateException.class);
    }

    static void throwsOne(String what, Call call, Class<?> due) {
        answers++;
        String got;
        try {
            got = "answered " + call.answer();
        } catch (RuntimeException e) {
            if (e.getClass() == due) {
                return;
            }
            got = "threw " + e.getClass().getName();
        }
        tell(what + " " + got + ", due is " + due.getName());
    }

    /** Sets the steps of a program from 0 on; each one is an operation, and its numbers as far as needed. */
    static void code(Loomkeeper x, int program, int[]... steps) {
        for (int i = 0; i < steps.length; i++) {
            int[] s = steps[i];
            x.set(program, i, s[0], s.length > 1 ? s[1] : 0, s.length > 2 ? s[2] : 0);
        }
    }

    static int[] s(int... step) {
        return step;
    }

    /** The workflow has these events and no others: kind, number, kind, number .. */
    static void history(String what, Loomkeeper x, int workflow, long... due) {
        is(what + ": events", x.events(workflow), due.length / 2);
        for (int i = 0; i < due.length / 2 && i < x.events(workflow); i++) {
            is(what + ": kind of " + i, x.kind(workflow, i), due[2 * i]);
            is(what + ": number of " + i, x.number(workflow, i), due[2 * i + 1]);
        }
        throwsIndex(what + ": kind behind the last", () -> x.kind(workflow, due.length / 2));
        throwsIndex(what + ": number behind the last", () -> x.number(workflow, due.length / 2));
    }

    /** What about() and aboutAnew() tell from 1 on. */
    static void about(String what, Loomkeeper x, int workflow, int... due) {
        for (int i = 0; i < due.length; i++) {
            int asked = i + 1;
            is(what + ": about " + asked, x.about(workflow, asked), due[i]);
            is(what + ": about anew " + asked, x.aboutAnew(workflow, asked), due[i]);
        }
    }

    /** What task() tells, from 0 on. */
    static void task(String what, Loomkeeper x, int task, int... due) {
        for (int i = 0; i < due.length; i++) {
            is(what + ": task " + i, x.task(task, i), due[i]);
        }
    }

    static int wrong() {
        return wrong;
    }

    /** Ends the test. */
    static void end() {
        System.out.println(answers + " answers, " + wrong + " not as due");
        if (wrong != 0 || answers == 0) {
            System.exit(1);
        }
    }
}
