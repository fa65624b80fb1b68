import java.util.ArrayList;
import java.util.List;

/** The calls of the face, with what the document says of each parameter's range and of what is thrown. */
final class Face {
    interface Call {
        long of(Loomkeeper x, int[] arguments);
    }

    /** A parameter: the document's words, from one number to another, or any, and what is thrown for others. */
    record Range(String words, int from, int to, Class<? extends RuntimeException> thrown) {
        boolean has(int number) {
            return thrown == null || number >= from && number <= to;
        }
    }

    record Rule(String name, Call call, Range... ranges) {
        /** What the arguments alone make the call throw; null for nothing. */
        Class<? extends RuntimeException> thrown(int... arguments) {
            Class<? extends RuntimeException> first = null;
            for (int i = 0; i < ranges.length; i++) {
                if (!ranges[i].has(arguments[i]) && first != IndexOutOfBoundsException.class) {
                    first = ranges[i].thrown();
                }
            }
            return first;
        }
    }

    static final int[] FAR = {Integer.MIN_VALUE, -1000, -999, -2, -1, 0, 1, 5, 6, 17, 18, 19, 20, 39, 40, 50, 51, 99,
        100, 140, 999, 1000, 65536, Integer.MAX_VALUE};

    private Face() {
    }

    private static Range index(String words, int to) {
        return new Range(words, 0, to, IndexOutOfBoundsException.class);
    }

    private static Range argument(String name, int from, int to) {
        return new Range("`" + name + "`: " + from + " to " + to, from, to, IllegalArgumentException.class);
    }

    private static Range any() {
        return new Range("`token`: any", 0, 0, null);
    }

    /** The rules for an object with so many workflows and tasks, each of the workflows having so many events. */
    static List<Rule> rules(int workflows, int events, int tasks) {
        Range program = index("`program`: 0 to 5", 5);
        Range step = index("`step`: 0 to 19", 19);
        Range kind = argument("kind", 0, 17);
        Range a = argument("a", 0, 99);
        Range b = argument("b", 0, 99);
        Range flow = index("`workflow`: its number", workflows - 1);
        Range event = index("if there is no such workflow or event", events - 1);
        Range task = index("if there is no such task", tasks - 1);
        Range first = new Range("`events`: how many, from 1 to those ahead of its END", 1, events - 1,
            IllegalArgumentException.class);
        Range what = argument("what", 0, 8);
        Range only = index("Throws `IndexOutOfBoundsException` if there is no such workflow", workflows - 1);
        List<Rule> all = new ArrayList<>();
        all.add(new Rule("set", (x, n) -> x.set(n[0], n[1], n[2], n[3], n[4]), program, step, kind, a, b));
        all.add(new Rule("check", (x, n) -> x.check(n[0], n[1], n[2], n[3], n[4]), program, step, kind, a, b));
        all.add(new Rule("start", (x, n) -> x.start(n[0], n[1]), program, argument("input", -999, 999)));
        all.add(new Rule("signal", (x, n) -> x.signal(n[0], n[1], n[2]) ? 1 : 0, flow, argument("signal", 0, 99),
            argument("with", 0, 99)));
        all.add(new Rule("cancel", (x, n) -> x.cancel(n[0]) ? 1 : 0, flow));
        all.add(new Rule("reset", (x, n) -> x.reset(n[0], n[1]), flow, first));
        all.add(new Rule("complete", (x, n) -> x.complete(n[0], n[1]) ? 1 : 0, any(), argument("result", -999, 999)));
        all.add(new Rule("fail", (x, n) -> x.fail(n[0]) ? 1 : 0, any()));
        all.add(new Rule("beat", (x, n) -> x.beat(n[0]) ? 1 : 0, any()));
        all.add(new Rule("tick", (x, n) -> x.tick(n[0]), argument("ticks", 1, 50)));
        all.add(new Rule("state", (x, n) -> x.state(n[0]), only));
        all.add(new Rule("about", (x, n) -> x.about(n[0], n[1]), only, what));
        all.add(new Rule("aboutAnew", (x, n) -> x.aboutAnew(n[0], n[1]), only, what));
        all.add(new Rule("parent", (x, n) -> x.parent(n[0]), only));
        all.add(new Rule("events", (x, n) -> x.events(n[0]), only));
        all.add(new Rule("kind", (x, n) -> x.kind(n[0], n[1]), only, event));
        all.add(new Rule("number", (x, n) -> x.number(n[0], n[1]), only, event));
        all.add(new Rule("task", (x, n) -> x.task(n[0], n[1]), task, argument("what", 0, 5)));
        return all;
    }
}
