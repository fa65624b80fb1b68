import java.util.ArrayList;
import java.util.List;

/** The calls of the face, with what the document says of each parameter's range and of what is thrown. */
final class Face {
    interface Call {
        long of(Loomkeeper x, int[] arguments);
    }

    /** A parameter: from one number to another, or any, and what is thrown for others. */
    record Range(int from, int to, Class<? extends RuntimeException> thrown) {
        boolean has(int number) {
            return thrown == null || number >= from && number <= to;
        }
    }

    record Rule(String name, Call call, Range... ranges) {
        /** What the arguments alone make the call throw; null for nothing. */
        Class<? extends RuntimeException> thrown(int... arguments) {
            Class<? extends RuntimeException> first = null;
            for (int i = 0; i < ranges.length; i++) {
                if (!ranges[i].has(arguments[i]) && first != IndexOutOfBoundsException.class) {
                    first = ranges[i].thrown();
                }
            }
            return first;
        }
    }

    static final int[] FAR = {Integer.MIN_VALUE, -1000, -999, -2, -1, 0, 1, 5, 6, 17, 18, 19, 20, 39, 40, 50, 51, 99,
        100, 140, 999, 1000, 65536, Integer.MAX_VALUE};

    private Face() {
    }

    private static Range index(int to) {
        return new Range(0, to, IndexOutOfBoundsException.class);
    }

    private static Range argument(int from, int to) {
        return new Range(from, to, IllegalArgumentException.class);
    }

    private static Range any() {
        return new Range(0, 0, null);
    }

    /** The rules for an object with so many workflows and tasks, each of the workflows having so many events. */
    static List<Rule> rules(int workflows, int events, int tasks) {
        Range w = index(workflows - 1);
        List<Rule> all = new ArrayList<>();
        all.add(new Rule("set", (x, a) -> x.set(a[0], a[1], a[2], a[3], a[4]), index(5), index(19), argument(0, 17),
            argument(0, 99), argument(0, 99)));
        all.add(new Rule("check", (x, a) -> x.check(a[0], a[1], a[2], a[3], a[4]), index(5), index(19),
            argument(0, 17), argument(0, 99), argument(0, 99)));
        all.add(new Rule("start", (x, a) -> x.start(a[0], a[1]), index(5), argument(-999, 999)));
        all.add(new Rule("signal", (x, a) -> x.signal(a[0], a[1], a[2]) ? 1 : 0, w, argument(0, 99), argument(0, 99)));
        all.add(new Rule("cancel", (x, a) -> x.cancel(a[0]) ? 1 : 0, w));
        all.add(new Rule("reset", (x, a) -> x.reset(a[0], a[1]), w, argument(1, events - 1)));
        all.add(new Rule("complete", (x, a) -> x.complete(a[0], a[1]) ? 1 : 0, any(), argument(-999, 999)));
        all.add(new Rule("fail", (x, a) -> x.fail(a[0]) ? 1 : 0, any()));
        all.add(new Rule("beat", (x, a) -> x.beat(a[0]) ? 1 : 0, any()));
        all.add(new Rule("tick", (x, a) -> x.tick(a[0]), argument(1, 50)));
        all.add(new Rule("state", (x, a) -> x.state(a[0]), w));
        all.add(new Rule("about", (x, a) -> x.about(a[0], a[1]), w, argument(0, 8)));
        all.add(new Rule("aboutAnew", (x, a) -> x.aboutAnew(a[0], a[1]), w, argument(0, 8)));
        all.add(new Rule("parent", (x, a) -> x.parent(a[0]), w));
        all.add(new Rule("events", (x, a) -> x.events(a[0]), w));
        all.add(new Rule("kind", (x, a) -> x.kind(a[0], a[1]), w, index(events - 1)));
        all.add(new Rule("number", (x, a) -> x.number(a[0], a[1]), w, index(events - 1)));
        all.add(new Rule("task", (x, a) -> x.task(a[0], a[1]), index(tasks - 1), argument(0, 5)));
        return all;
    }
}
