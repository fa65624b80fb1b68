import java.util.ArrayDeque;
import java.util.ArrayList;
import java.util.Deque;
import java.util.HashSet;
import java.util.List;
import java.util.Set;

/**
 * The document once more, in a plain way: nothing is kept but the events, and every question is answered
 * by replaying from the beginning. What Loomkeeper answers is compared with it.
 */
final class Plain {
    private final int[][][] code = new int[6][20][3];
    private final List<W> ws = new ArrayList<>();
    private final List<T> ts = new ArrayList<>();
    private final long[] served = new long[6];
    private final Set<W> standing = new HashSet<>();
    private final Deque<W> parents = new ArrayDeque<>();
    private int now;
    private int tokens;
    private long x = 1;

    private static final class W {
        int number;
        int program;
        int parent = -1;
        int knownAs;
        W next;
        T task;
        int seen;
        final List<long[]> events = new ArrayList<>();

        boolean ended() {
            return events.get(events.size() - 1)[0] == 13;
        }
    }

    private static final class T {
        W of;
        int activity;
        int how;
        int tries;
        int token;
        int until;
    }

    /** What a replay has found. */
    private static final class R {
        boolean astray;
        int place;
        int value;
        int waits;
        long number;
        long due;
        final List<Integer> pile = new ArrayList<>();
        final List<Integer> kept = new ArrayList<>();
        boolean shield;
        int ending;
        boolean over;
        /** The event that it would make next: kind, number. */
        long[] next;
        int leftAt = -1;
        long leftChild;
        long activity;
    }

    // ---- replaying

    private R replay(W w, int limit) {
        return replay(w.program, w.events.subList(0, limit));
    }

    private R replay(W w) {
        return replay(w, w.events.size());
    }

    private R replay(int program, List<long[]> e) {
        R r = new R();
        r.value = (int) e.get(0)[1];
        int i = 1;
        int steps = 0;
        boolean asked = false;
        while (true) {
            if (r.over) {
                r.astray = i < e.size();
                return r;
            }
            if (r.waits != 0) {
                if (i == e.size()) {
                    return r;
                }
                int k = (int) e.get(i)[0];
                long n = e.get(i)[1];
                i++;
                steps = 0;
                if (k == 6) {
                    if (r.waits == 3 && n / 100 == r.number) {
                        r.value = (int) (n % 100);
                        r.waits = 0;
                    } else if (r.waits == 4 && n / 100 == r.number) {
                        r.value = 1;
                        r.waits = 0;
                    } else {
                        r.kept.add((int) n);
                    }
                } else if (k == 12) {
                    if (r.ending == 0 && r.shield) {
                        asked = true;
                    } else if (r.ending == 0) {
                        if (r.waits == 5) {
                            r.leftAt = i - 1;
                            r.leftChild = r.number;
                        }
                        r.ending = 3;
                        r.waits = 0;
                    }
                } else if (r.waits == 1 && k == 2) {
                    r.value = (int) n;
                    r.waits = 0;
                } else if (r.waits == 1 && k == 3) {
                    r.ending = 2;
                    r.waits = 0;
                } else if (r.waits == 6 && (k == 2 || k == 3)) {
                    r.waits = 0;
                } else if ((r.waits == 2 || r.waits == 4) && k == 5) {
                    r.value = r.waits == 4 ? 0 : r.value;
                    r.waits = 0;
                } else if (r.waits == 5 && k == 8) {
                    r.waits = 0;
                    int how = (int) ((n % 10 + 10) % 10);
                    if (how == 1) {
                        r.value = (int) ((n - how) / 10);
                    } else {
                        r.ending = 2;
                    }
                } else {
                    r.astray = true;
                    return r;
                }
                continue;
            }
            // What the step, or the undoing, makes: kind, number; no kind if it makes none.
            long kind = -1;
            long number = 0;
            int op = -1;
            int a = 0;
            int b = 0;
            if (r.ending != 0) {
                if (r.pile.isEmpty()) {
                    kind = 13;
                    number = 10L * r.value + r.ending;
                } else {
                    kind = 11;
                    number = r.pile.remove(r.pile.size() - 1);
                }
            } else {
                int[] s = code[program][r.place];
                op = s[0];
                a = s[1];
                b = s[2];
                r.place = (r.place + 1) % 20;
                steps++;
                int at = -1;
                for (int j = r.kept.size() - 1; j >= 0; j--) {
                    at = r.kept.get(j) / 100 == a ? j : at;
                }
                boolean event = op == 1 || op == 2 || op == 4 && at < 0 || op == 9 || op == 10 || op == 11
                    || op == 14 || op == 17;
                if (steps == 61 || event && i >= 60 || op == 12 && r.pile.size() == 20 || op == 13) {
                    r.ending = 2;
                    continue;
                }
                if (op == 14 && i < e.size() && (e.get(i)[0] != 10 || e.get(i)[1] != a)) {
                    r.value = 0;
                    continue;
                }
                if ((op == 3 || op == 4) && at >= 0) {
                    int with = r.kept.remove(at) % 100;
                    r.value = op == 3 ? with : 1;
                    continue;
                }
                if (op == 3) {
                    r.waits = 3;
                    r.number = a;
                    continue;
                }
                if (op == 5 && r.value == 0 || op == 6) {
                    r.place = a % 20;
                }
                r.value += op == 7 ? a : op == 8 ? -a : 0;
                if (op == 12) {
                    r.pile.add(a);
                }
                r.shield = op == 15 || op != 16 && r.shield;
                if (op == 16 && asked) {
                    r.ending = 3;
                }
                int[] kinds = {13, 1, 4, -1, 4, -1, -1, -1, -1, 7, 14, 9, -1, -1, 10, -1, -1, 14};
                kind = kinds[op];
                number = op == 0 ? 10L * r.value + 1 : op == 4 ? Math.max(1, b) : op == 2 ? Math.max(1, a)
                    : op == 9 || op == 10 ? a % 6 : op == 17 ? -1 : a;
            }
            if (kind == -1) {
                continue;
            }
            if (i == e.size()) {
                r.next = new long[] {kind, number, op};
                return r;
            }
            long k = e.get(i)[0];
            long n = e.get(i)[1];
            boolean any = k == 4 || k == 7 || k == 9 || k == 14;
            if (k != kind || !any && n != number) {
                r.astray = true;
                return r;
            }
            i++;
            if (k == 1 || k == 11) {
                r.waits = k == 1 ? 1 : 6;
                r.activity = n;
            } else if (k == 4) {
                r.waits = op == 2 ? 2 : 4;
                r.due = n;
                r.number = op == 2 ? n : a;
            } else if ((k == 7 || k == 14) && n < 0) {
                r.ending = 2;
            } else if (k == 7) {
                r.waits = 5;
                r.number = n;
            } else if (k == 9) {
                r.value = (int) n;
            } else if (k == 10) {
                r.value = 1;
            } else if (k == 14 && op == 10) {
                r.value = (int) n;
            } else if (k == 14) {
                long end = 10L * r.value + 4;
                if (i == e.size()) {
                    r.next = new long[] {13, end, op};
                    return r;
                }
                if (e.get(i)[0] != 13 || e.get(i)[1] != end) {
                    r.astray = true;
                    return r;
                }
                i++;
                r.over = true;
            } else {
                r.over = true;
            }
        }
    }

    // ---- going on

    private void goOn(W w) {
        standing.add(w);
        for (R r = replay(w); ; r = replay(w)) {
            if (!r.astray && w.task != null && r.waits != 1 && r.waits != 6) {
                close(w.task);
            }
            if (r.next == null || r.astray) {
                break;
            }
            W started = null;
            int k = (int) r.next[0];
            long n = r.next[1];
            if (k == 1 || k == 11) {
                schedule(w, (int) n);
            } else if (k == 4) {
                n += now;
            } else if (k == 9) {
                x = (75 * x + 74) % 65537;
                n = x % (n + 1);
            } else if (k == 7 || k == 14) {
                if (ws.size() < 40) {
                    started = add(n < 0 ? w.program : (int) n, r.value);
                    if (k == 7) {
                        started.parent = w.number;
                    } else if (n < 0) {
                        started.parent = w.parent;
                        started.knownAs = w.knownAs;
                        w.next = started;
                    }
                }
                n = started == null ? -1 : started.number;
            }
            w.events.add(new long[] {k, n});
            if (k == 13 && n % 10 != 4 && n % 10 != -6 && w.parent >= 0) {
                W p = ws.get(w.parent);
                R pr = replay(p);
                if (!p.ended() && !pr.astray && pr.waits == 5 && pr.number == w.knownAs) {
                    p.events.add(new long[] {8, n});
                    if (!standing.contains(p)) {
                        parents.add(p);
                    }
                }
            }
            if (started != null) {
                goOn(started);
            }
        }
        R r = replay(w);
        standing.remove(w);
        if (!r.astray) {
            boolean asks = r.leftAt >= w.seen;
            w.seen = w.events.size();
            if (asks) {
                W c = ws.get((int) r.leftChild);
                while (c.next != null) {
                    c = c.next;
                }
                ask(c);
            }
        }
    }

    private void settle(W w) {
        goOn(w);
        while (!parents.isEmpty()) {
            goOn(parents.remove());
        }
    }

    private void ask(W w) {
        if (!w.ended() && w.events.size() < 90) {
            w.events.add(new long[] {12, 0});
            goOn(w);
        }
    }

    private W add(int program, int input) {
        W w = new W();
        w.number = ws.size();
        w.knownAs = w.number;
        w.program = program;
        w.events.add(new long[] {0, input});
        ws.add(w);
        return w;
    }

    private void schedule(W w, int activity) {
        T t = new T();
        t.of = w;
        t.activity = activity;
        ts.add(t);
        w.task = t;
    }

    private void close(T t) {
        t.how = 3;
        t.until = 0;
        t.of.task = null;
    }

    private boolean goes(W w) {
        return !replay(w).astray;
    }

    private boolean come(W w, int kind, long number) {
        if (w.ended() || w.events.size() >= 90) {
            return false;
        }
        w.events.add(new long[] {kind, number});
        settle(w);
        return true;
    }

    // ---- the face

    int set(int program, int step, int kind, int a, int b) {
        code[program][step] = new int[] {kind, a, b};
        for (int i = 0; i < ws.size(); i++) {
            W w = ws.get(i);
            if (w.program == program && !w.ended() && goes(w)) {
                settle(w);
            }
        }
        return astray(program);
    }

    private int astray(int program) {
        int count = 0;
        for (W w : ws) {
            count += w.program == program && !w.ended() && !goes(w) ? 1 : 0;
        }
        return count;
    }

    int check(int program, int step, int kind, int a, int b) {
        int[] was = code[program][step];
        code[program][step] = new int[] {kind, a, b};
        int count = astray(program);
        code[program][step] = was;
        return count;
    }

    int start(int program, int input) {
        if (ws.size() >= 40) {
            throw new IllegalStateException();
        }
        W w = add(program, input);
        settle(w);
        return w.number;
    }

    boolean signal(int workflow, int signal, int with) {
        return come(ws.get(workflow), 6, 100L * signal + with);
    }

    boolean cancel(int workflow) {
        return come(ws.get(workflow), 12, 0);
    }

    int reset(int workflow, int events) {
        W old = ws.get(workflow);
        if (events < 1 || events > old.events.size() - (old.ended() ? 1 : 0)) {
            throw new IllegalArgumentException();
        }
        R r = replay(old, events);
        if (!old.ended() || r.astray || r.waits == 5 || ws.size() >= 40) {
            throw new IllegalStateException();
        }
        W w = add(old.program, (int) old.events.get(0)[1]);
        w.events.addAll(old.events.subList(1, events));
        w.seen = events;
        if (r.waits == 1 || r.waits == 6) {
            schedule(w, (int) r.activity);
        }
        settle(w);
        for (long[] e : old.events.subList(events, old.events.size())) {
            if (e[0] == 6) {
                come(w, 6, e[1]);
            }
        }
        return w.number;
    }

    int crash() {
        int count = 0;
        for (W w : ws) {
            count += w.ended() ? 0 : 1;
        }
        return count;
    }

    int poll() {
        T best = null;
        for (T t : ts) {
            if (t.how == 0 && goes(t.of)) {
                int p = t.of.program;
                int q = best == null ? -1 : best.of.program;
                if (best == null || served[p] < served[q] || served[p] == served[q] && p < q) {
                    best = t;
                }
            }
        }
        if (best == null) {
            return -1;
        }
        best.how = 1;
        best.token = ++tokens;
        best.until = now + 6;
        served[best.of.program] = tokens;
        return tokens;
    }

    private T running(int token) {
        for (T t : ts) {
            if (t.how == 1 && t.token == token && goes(t.of)) {
                return t;
            }
        }
        return null;
    }

    boolean complete(int token, int result) {
        T t = running(token);
        if (t != null) {
            close(t);
            t.of.events.add(new long[] {2, result});
            settle(t.of);
        }
        return t != null;
    }

    boolean fail(int token) {
        T t = running(token);
        if (t != null) {
            lose(t);
        }
        return t != null;
    }

    private void lose(T t) {
        t.tries++;
        if (t.tries == 3) {
            close(t);
            t.of.events.add(new long[] {3, 0});
            settle(t.of);
        } else {
            t.how = 2;
            t.until = now + (t.tries == 1 ? 2 : 4);
        }
    }

    boolean beat(int token) {
        T t = running(token);
        if (t != null) {
            t.until = now + 6;
        }
        return t != null;
    }

    int tick(int ticks) {
        for (int i = 0; i < ticks; i++) {
            now++;
            for (int j = 0; j < ts.size(); j++) {
                T t = ts.get(j);
                if ((t.how == 1 || t.how == 2) && t.until <= now && goes(t.of)) {
                    if (t.how == 1) {
                        lose(t);
                    } else {
                        t.how = 0;
                        t.until = 0;
                    }
                }
            }
            for (int j = 0; j < ws.size(); j++) {
                R r = replay(ws.get(j));
                if (!r.astray && (r.waits == 2 || r.waits == 4) && r.due <= now) {
                    ws.get(j).events.add(new long[] {5, 0});
                    settle(ws.get(j));
                }
            }
        }
        return now;
    }

    int workflows() {
        return ws.size();
    }

    int state(int workflow) {
        W w = ws.get(workflow);
        long n = w.events.get(w.events.size() - 1)[1];
        return w.ended() ? (int) ((n % 10 + 10) % 10) : goes(w) ? 0 : 5;
    }

    int about(int workflow, int what) {
        W w = ws.get(workflow);
        R r = replay(w);
        if (r.astray) {
            throw new IllegalStateException();
        }
        long number = r.waits == 1 || r.waits == 6 ? ts.indexOf(w.task) : r.waits == 0 ? 0 : r.number;
        int[] all = {w.program, r.place, r.value, r.waits, (int) number, r.pile.size(), r.shield ? 1 : 0,
            r.over ? 0 : r.ending, r.kept.size()};
        return all[what];
    }

    int parent(int workflow) {
        return ws.get(workflow).parent;
    }

    int events(int workflow) {
        return ws.get(workflow).events.size();
    }

    int kind(int workflow, int event) {
        return (int) ws.get(workflow).events.get(event)[0];
    }

    long number(int workflow, int event) {
        return ws.get(workflow).events.get(event)[1];
    }

    int tasks() {
        return ts.size();
    }

    int task(int task, int what) {
        T t = ts.get(task);
        int[] all = {t.of.number, t.activity, t.how, t.tries, t.token, t.until};
        return all[what];
    }

    int now() {
        return now;
    }
}
