import java.util.List;

/** Promises 2 to 24: the least and the most of each argument, what is thrown beside them, and which comes first. */
public final class CallEdgesTest {
    public static void main(String[] args) {
        eachArgument();
        whichIsFirst();
        whereItIsTold();
        states();
        Due.end();
    }

    /** Three workflows that have ended, with four events each, and three tasks that are closed. */
    private static Loomkeeper ended() {
        Loomkeeper x = Words.keeper("CALL 1");
        for (int i = 0; i < 3; i++) {
            x.start(0, i);
            x.complete(x.poll(), i);
        }
        return x;
    }

    private static List<Face.Rule> rules() {
        return Face.rules(3, 4, 3);
    }

    private static int[] least(Face.Rule rule) {
        int[] arguments = new int[rule.ranges().length];
        for (int i = 0; i < arguments.length; i++) {
            arguments[i] = rule.ranges()[i].from();
        }
        return arguments;
    }

    /** What the call throws; null for nothing. */
    private static String thrown(Face.Rule rule, Loomkeeper x, int[] arguments) {
        try {
            rule.call().of(x, arguments);
            return "nothing";
        } catch (RuntimeException e) {
            return e.getClass().getName();
        }
    }

    private static String due(Class<? extends RuntimeException> thrown) {
        return thrown == null ? "nothing" : thrown.getName();
    }

    private static String text(Face.Rule rule, int[] arguments) {
        StringBuilder all = new StringBuilder(rule.name()).append("(");
        for (int i = 0; i < arguments.length; i++) {
            all.append(i == 0 ? "" : ", ").append(arguments[i]);
        }
        return all.append(")").toString();
    }

    private static void throwsWhatIsDue(Face.Rule rule, int[] arguments) {
        Loomkeeper x = ended();
        String before = Words.all(x);
        Class<? extends RuntimeException> due = rule.thrown(arguments);
        Due.is(text(rule, arguments), thrown(rule, x, arguments), due(due));
        if (due != null) {
            Due.is("all behind " + text(rule, arguments), Words.all(x), before);
        }
    }

    private static void eachArgument() {
        for (Face.Rule rule : rules()) {
            for (int i = 0; i < rule.ranges().length; i++) {
                Face.Range range = rule.ranges()[i];
                int parameter = i;
                Due.holds(range.words() + " // " + rule.name(), () -> {
                    for (int edge : new int[] {range.from() - 1, range.from(), range.to(), range.to() + 1}) {
                        throwsWhatIsDue(rule, with(rule, parameter, edge));
                    }
                    for (int far : Face.FAR) {
                        throwsWhatIsDue(rule, with(rule, parameter, far));
                    }
                });
            }
        }
    }

    /** The least arguments, but for one. */
    private static int[] with(Face.Rule rule, int parameter, int number) {
        int[] arguments = least(rule);
        arguments[parameter] = number;
        return arguments;
    }

    private static void whichIsFirst() {
        Due.holds("If several exceptions apply, the one that is named first in the throws clause is thrown.", () -> {
            for (Face.Rule rule : rules()) {
                int n = rule.ranges().length;
                for (int i = 0; i < n; i++) {
                    for (int j = i + 1; j < n; j++) {
                        for (int edge = 0; edge < 4; edge++) {
                            int[] arguments = with(rule, i,
                                edge % 2 == 0 ? rule.ranges()[i].from() - 1 : rule.ranges()[i].to() + 1);
                            arguments[j] = edge / 2 == 0 ? rule.ranges()[j].from() - 1 : rule.ranges()[j].to() + 1;
                            throwsWhatIsDue(rule, arguments);
                        }
                    }
                }
            }
        });
    }

    private static void whereItIsTold() {
        Due.holds("Throws `IndexOutOfBoundsException` if there is no such workflow // on a new object", () -> {
            for (Face.Rule rule : Face.rules(0, 0, 0)) {
                if (rule.ranges()[0].to() == -1) {
                    Loomkeeper x = new Loomkeeper();
                    int[] arguments = new int[rule.ranges().length];
                    Due.is(text(rule, arguments), thrown(rule, x, arguments), "java.lang.IndexOutOfBoundsException");
                }
            }
        });
        Due.holds("Throws `IndexOutOfBoundsException` if there is no such workflow or event", () -> {
            Loomkeeper x = ended();
            for (int w = 0; w < 3; w++) {
                int workflow = w;
                Due.is("events", x.events(w), 4);
                Due.is("the first one", x.kind(w, 0), 0);
                Due.is("the last one", x.kind(w, 3), 13);
                for (int event : new int[] {-1, 4, 5, 139, 140, 141}) {
                    Due.throwsIndex("kind " + event, () -> x.kind(workflow, event));
                    Due.throwsIndex("number " + event, () -> x.number(workflow, event));
                }
            }
        });
        Due.holds("Throws `IndexOutOfBoundsException` if there is no such task", () -> {
            Loomkeeper x = Words.keeper("CALL 1");
            Due.throwsIndex("none", () -> x.task(0, 0));
            x.start(0, 0);
            Due.is("the first one", x.task(0, 1), 1);
            Due.throwsIndex("the next one", () -> x.task(1, 0));
            Due.throwsIndex("the task is told first", () -> x.task(1, 6));
        });
        Due.holds("`token`: any", () -> {
            for (int token : Face.FAR) {
                Loomkeeper x = ended();
                Due.is("complete", x.complete(token, 0), false);
                Due.is("fail", x.fail(token), false);
                Due.is("beat", x.beat(token), false);
            }
        });
    }

    private static void states() {
        Due.holds("Throws `IllegalStateException` if its history, be it one that has ended, does not go with the code", () -> {
            Loomkeeper x = Words.keeper("CALL 1");
            x.start(0, 0);
            Words.code(x, 1, "ADD 1");
            x.start(1, 0);
            Words.set(x, 0, 0, "CALL 2");
            Words.set(x, 1, 0, "ADD 2");
            for (int w = 0; w < 2; w++) {
                int workflow = w;
                for (int what = 0; what < 9; what++) {
                    int fact = what;
                    Due.throwsState("about " + what, () -> x.about(workflow, fact));
                    Due.throwsState("aboutAnew " + what, () -> x.aboutAnew(workflow, fact));
                }
                Due.throwsArgument("what is told first", () -> x.about(workflow, 9));
                Due.throwsArgument("what is told first", () -> x.aboutAnew(workflow, -1));
                Due.is("state", x.state(w), w == 0 ? 5 : 1);
                Due.is("parent", x.parent(w), -1);
                Due.is("events", x.events(w), 2);
            }
            Due.throwsIndex("the workflow is told first", () -> x.about(2, 9));
            Due.throwsIndex("the workflow is told first", () -> x.aboutAnew(2, 9));
        });
        Due.holds("0 it waits, 1 to 4 how it ended, whatever the code is by now, 5 it has not ended", () -> {
            Loomkeeper x = Words.keeper("AWAIT 1", "BRANCH 4", "FAIL");
            Words.code(x, 1, "AS_NEW");
            Words.set(x, 0, 4, "END");
            for (int i = 0; i < 4; i++) {
                x.start(0, 0);
            }
            x.signal(1, 1, 0);
            x.signal(2, 1, 1);
            x.cancel(3);
            x.start(1, 0);
            for (int w = 0; w < 5; w++) {
                Due.is("state of " + w, x.state(w), w);
            }
            Words.set(x, 1, 0, "CALL 1");
            Words.set(x, 0, 4, "CALL 1");
            Words.set(x, 0, 2, "CALL 1");
            Words.set(x, 0, 0, "CALL 1");
            Due.is("one that waited goes on by other code", Words.history(x, 0), "STARTED 0, SCHEDULED 1");
            Words.set(x, 0, 0, "CALL 2");
            Due.is("state of 0", x.state(0), 5);
            for (int w = 1; w < 5; w++) {
                Due.is("state of " + w, x.state(w), w);
                Due.is("where it is cannot be told", Words.where(x, w), "astray");
            }
        });
        Due.holds("Returns how many workflows of the program that have not ended do not go with the code then.", () -> {
            Loomkeeper x = Words.keeper("CALL 1");
            Words.code(x, 1, "CALL 1");
            Due.is("of none", Words.set(x, 0, 0, "CALL 1"), 0);
            for (int i = 0; i < 40; i++) {
                x.start(i % 2, 0);
            }
            Due.is("check of all", Words.check(x, 0, 0, "CALL 2"), 20);
            Due.is("check sets nothing", x.state(0), 0);
            Due.is("set of all", Words.set(x, 0, 0, "CALL 2"), 20);
            Due.is("another step", Words.set(x, 0, 7, "ADD 1"), 20);
            Due.is("another program", Words.set(x, 1, 7, "ADD 1"), 0);
            Due.is("check of the step that went", Words.check(x, 0, 0, "CALL 1"), 0);
            Due.is("set back", Words.set(x, 0, 0, "CALL 1"), 0);
            x.cancel(0);
            Due.is("without one that has ended", Words.check(x, 0, 0, "CALL 2"), 19);
        });
        Due.holds("Returns how many have not ended.", () -> {
            Loomkeeper x = Words.keeper("AWAIT 1");
            Due.is("none", x.crash(), 0);
            for (int i = 0; i < 40; i++) {
                Due.is("crash", x.crash(), i);
                x.start(0, 0);
            }
            Due.is("all", x.crash(), 40);
            x.signal(39, 1, 1);
            x.cancel(0);
            Due.is("without two", x.crash(), 38);
        });
        Due.holds("-1 if it has none, or was not started to be waited for", () -> {
            Loomkeeper x = Words.keeper("CHILD 1", "START 1");
            x.start(0, 0);
            Due.is("by start", x.parent(0), -1);
            Due.is("by CHILD", x.parent(1), 0);
            Due.is("by START", x.parent(2), -1);
            x.reset(1, 1);
            Due.is("by reset", x.parent(3), -1);
        });
        Due.holds("`ticks`: 1 to 50", () -> {
            Loomkeeper x = new Loomkeeper();
            Due.is("1", x.tick(1), 1);
            Due.is("50", x.tick(50), 51);
            Due.throwsArgument("0", () -> x.tick(0));
            Due.throwsArgument("51", () -> x.tick(51));
            Due.is("now", x.now(), 51);
        });
    }
}
