import java.util.List;
import java.util.Random;

/**
 * Promises 2 to 24: long runs of calls drawn by fixed seeds. Each answer is compared with Plain's, and so
 * is all that can be seen behind each call. Plain knows neither crash() nor the calls that throw: they may
 * come anywhere without a difference.
 */
public final class RandomTest {
    private static final int RUNS = 1500;

    private final Random random;
    private final Loomkeeper x = new Loomkeeper();
    private final Plain y = new Plain();
    private final String name;
    private int[][][] code = new int[6][20][3];
    private int wrongAtFirst;

    private RandomTest(int seed) {
        // Seeds side by side begin with nearly the same numbers.
        random = new Random(seed * 0x9E3779B97F4A7C15L >>> 8);
        name = "seed " + seed;
    }

    public static void main(String[] args) {
        int from = args.length > 0 ? Integer.parseInt(args[0]) : 0;
        int to = args.length > 1 ? Integer.parseInt(args[1]) : RUNS;
        for (int seed = from; seed < to; seed++) {
            new RandomTest(seed).run();
        }
        Due.end();
    }

    private int draw(int from, int to) {
        return from + random.nextInt(to - from + 1);
    }

    private void run() {
        int style = draw(0, 3);
        for (int p = 0; p < 6; p++) {
            int steps = draw(1, style == 0 ? 4 : 9);
            for (int s = 0; s < steps; s++) {
                set(p, s, style);
            }
        }
        int calls = draw(20, 150);
        for (int i = 0; i < calls; i++) {
            refused();
            String call = call(style);
            if (!same(name + " call " + i + " " + call)) {
                return;
            }
        }
    }

    /** A call with arguments that are out of range, of which Plain is told nothing. */
    private void refused() {
        int n = y.workflows();
        List<Face.Rule> rules = Face.rules(n, 4, y.tasks());
        int which = random.nextInt(rules.size());
        Face.Range[] ranges = rules.get(which).ranges();
        int[] arguments = new int[ranges.length];
        for (int i = 0; i < arguments.length; i++) {
            int[] edges = {ranges[i].from() - 1, ranges[i].from(), ranges[i].to(), ranges[i].to() + 1};
            int edge = random.nextInt(8);
            arguments[i] = edge < 4 ? edges[edge] : Face.FAR[random.nextInt(Face.FAR.length)];
        }
        boolean is = arguments[0] >= 0 && arguments[0] < n;
        Face.Rule rule = Face.rules(n, is ? y.events(arguments[0]) : 1, y.tasks()).get(which);
        Class<?> due = rule.thrown(arguments);
        boolean hasNoEnd = rule.name().equals("reset") && is && y.state(arguments[0]) % 5 == 0;
        if (due != null && !hasNoEnd) {
            Due.throwsOne(name + " " + rule.name() + " " + arguments[0], () -> rule.call().of(x, arguments), due);
        }
    }

    private void set(int program, int step, int style) {
        int[] s = drawStep(program, step, style);
        code[program][step] = s;
        Due.is(name + " set", x.set(program, step, s[0], s[1], s[2]), y.set(program, step, s[0], s[1], s[2]));
    }

    /** Mostly, programs start only those of higher numbers, and go on as new behind an AWAIT alone. */
    private int[] drawStep(int program, int step, int style) {
        int[][] ops = {
            {0, 1, 1, 2, 3, 3, 4, 5, 6, 7, 8, 9, 10, 11, 12, 13, 14, 15, 16},
            {1, 1, 1, 1, 3, 3, 9, 9, 9, 12, 12, 12, 7, 15, 16, 2, 4},
            {3, 3, 3, 4, 4, 9, 9, 10, 5, 6, 12, 12, 14, 11, 7, 1, 1, 2},
            {1, 1, 3, 3, 14, 14, 9, 9, 12, 15, 16, 7, 8, 5, 2},
        };
        int op = ops[style][random.nextInt(ops[style].length)];
        int most = op == 3 || op == 4 ? 2 : op == 5 || op == 6 ? 9 : op == 2 ? 6 : 7;
        int a = random.nextInt(12) == 0 ? draw(0, 99) : draw(0, most);
        boolean wild = random.nextInt(60) == 0;
        if ((op == 9 || op == 10) && !wild) {
            op = program == 5 ? 1 : op;
            a = program == 5 ? a : draw(program + 1, 5) + 6 * draw(0, 1);
        }
        if (wild || step > 0 && code[program][step - 1][0] == 3 && random.nextInt(style == 2 ? 3 : 8) == 0) {
            op = 17;
        }
        return new int[] {op, a, random.nextInt(12) == 0 ? draw(0, 99) : draw(0, 5)};
    }

    private String call(int style) {
        int n = y.workflows();
        int kind = draw(0, 99);
        if (n == 0 || kind < 12) {
            int p = draw(0, 5);
            int input = draw(-3, 5);
            Due.is(name + " start", answer(() -> x.start(p, input)), answer(() -> y.start(p, input)));
            return "start " + p + " " + input;
        }
        int w = draw(0, n - 1);
        if (kind < 38) {
            int s = draw(0, 2);
            int with = draw(0, 3);
            int times = random.nextInt(60) == 0 ? draw(1, 60) : 1;
            for (int i = 0; i < times; i++) {
                Due.is(name + " signal", x.signal(w, s, with), y.signal(w, s, with));
            }
            return "signal " + w + " " + s + " " + with + ", times " + times;
        }
        if (kind < 46) {
            Due.is(name + " cancel", x.cancel(w), y.cancel(w));
            return "cancel " + w;
        }
        if (kind < 50) {
            int events = draw(0, y.events(w));
            Due.is(name + " reset", answer(() -> x.reset(w, events)), answer(() -> y.reset(w, events)));
            return "reset " + w + " " + events;
        }
        if (kind < 54) {
            Due.is(name + " crash", x.crash(), y.crash());
            return "crash";
        }
        return kind < 82 ? callOfWorkers(kind) : callOfPrograms(style);
    }

    private String callOfWorkers(int kind) {
        int token = y.poll();
        Due.is(name + " poll", x.poll(), token);
        int told = draw(0, 3) == 0 ? draw(0, 1 + Math.max(1, token)) : token;
        if (kind < 66) {
            int result = draw(-2, 9);
            Due.is(name + " complete", x.complete(told, result), y.complete(told, result));
            return "complete " + told + " " + result;
        }
        if (kind < 72) {
            Due.is(name + " fail", x.fail(told), y.fail(told));
            return "fail " + told;
        }
        if (kind < 74) {
            Due.is(name + " beat", x.beat(told), y.beat(told));
            return "beat " + told;
        }
        int ticks = draw(0, 2) == 0 ? draw(1, 9) : draw(1, 3);
        Due.is(name + " tick", x.tick(ticks), y.tick(ticks));
        return "tick " + ticks;
    }

    private String callOfPrograms(int style) {
        int p = draw(0, 5);
        int s = draw(0, 6);
        int[] was = code[p][s];
        int[] c = drawStep(p, s, style);
        int astray = x.check(p, s, c[0], c[1], c[2]);
        Due.is(name + " check", astray, y.check(p, s, c[0], c[1], c[2]));
        if (draw(0, 2) == 0) {
            set(p, s, style);
            if (draw(0, 2) != 0 && same(name + " set")) {
                call(style);
                code[p][s] = was;
                Due.is(name + " set back", x.set(p, s, was[0], was[1], was[2]), y.set(p, s, was[0], was[1], was[2]));
            }
        }
        return "set " + p + " " + s;
    }

    /** The answer, or a number for what was thrown. */
    private static long answer(Due.Call call) {
        try {
            return call.answer();
        } catch (IndexOutOfBoundsException e) {
            return -1001;
        } catch (IllegalArgumentException e) {
            return -1002;
        } catch (IllegalStateException e) {
            return -1003;
        }
    }

    private boolean same(String when) {
        wrongAtFirst = Due.wrong();
        Due.is(when + ": now", x.now(), y.now());
        Due.is(when + ": tasks", x.tasks(), y.tasks());
        Due.is(when + ": workflows", x.workflows(), y.workflows());
        for (int t = 0; t < y.tasks() && t < x.tasks(); t++) {
            for (int what = 0; what < 6; what++) {
                Due.is(when + ": task " + t + " " + what, x.task(t, what), y.task(t, what));
            }
        }
        for (int w = 0; w < y.workflows() && w < x.workflows(); w++) {
            sameWorkflow(when + ": workflow " + w, w);
        }
        return Due.wrong() == wrongAtFirst;
    }

    private void sameWorkflow(String when, int w) {
        Due.is(when + " state", x.state(w), y.state(w));
        Due.is(when + " parent", x.parent(w), y.parent(w));
        Due.is(when + " events", x.events(w), y.events(w));
        for (int e = 0; e < y.events(w) && e < x.events(w); e++) {
            Due.is(when + " kind " + e, x.kind(w, e), y.kind(w, e));
            Due.is(when + " number " + e, x.number(w, e), y.number(w, e));
        }
        for (int what = 0; what < 9; what++) {
            int asked = what;
            long due = answer(() -> y.about(w, asked));
            Due.is(when + " about " + what, answer(() -> x.about(w, asked)), due);
            Due.is(when + " about anew " + what, answer(() -> x.aboutAnew(w, asked)), due);
        }
    }
}
