import java.util.ArrayList;

/**
 * An engine for work that lasts long: workflows whose steps are kept as events, and found again by
 * replaying these.
 *
 * <p>Where a workflow is follows from its history and the code alone (see Run); whatever touches
 * anything else (tasks, other workflows, chance, now) happens only when an event is made.
 */
public final class Loomkeeper {
    private static final int PROGRAMS = 6;
    private static final int STEPS = 20;
    private static final int OPERATIONS = 18;
    /** The numbers of steps and signals, and what comes with signals, are below it. */
    private static final int NUMBERS = 100;
    private static final int WORKFLOWS = 40;
    private static final int MOST_VALUE = 999;
    private static final int MOST_TICKS = 50;
    private static final int FACTS = 9;
    private static final int TASK_FACTS = 6;

    private static final int LEASE = 6;
    private static final int TRIES = 3;
    private static final int CHANCE_TIMES = 75;
    private static final int CHANCE_MORE = 74;
    private static final int CHANCE_MODULO = 65537;

    private static final int STEPS_AT_ONCE = 60;
    private static final int EVENTS_FOR_STEPS = 60;
    private static final int EVENTS_FOR_SIGNALS = 90;
    private static final int PILE = 20;
    /** 90 events, a result, and then 20 undone by two events each, and END: no history gets longer. */
    private static final int LONGEST = 140;
    /** More than any run of calls can put in a line at once. */
    private static final int LINE = 128;
    /** A bound for loops that end far earlier by themselves. */
    private static final int MANY = 1000000;
    /** No workflow, no event and no signal has it. */
    private static final int NONE = -1;

    private static final int OP_END = 0;
    private static final int OP_CALL = 1;
    private static final int OP_TIMER = 2;
    private static final int OP_AWAIT = 3;
    private static final int OP_SELECT = 4;
    private static final int OP_BRANCH = 5;
    private static final int OP_JUMP = 6;
    private static final int OP_ADD = 7;
    private static final int OP_TAKE = 8;
    private static final int OP_CHILD = 9;
    private static final int OP_START = 10;
    private static final int OP_CHANCE = 11;
    private static final int OP_UNDO = 12;
    private static final int OP_FAIL = 13;
    private static final int OP_MARK = 14;
    private static final int OP_SHIELD = 15;
    private static final int OP_OPEN = 16;
    private static final int OP_AS_NEW = 17;

    private static final int STARTED = 0;
    private static final int SCHEDULED = 1;
    private static final int DONE = 2;
    private static final int FAILED = 3;
    private static final int TIMER = 4;
    private static final int FIRED = 5;
    private static final int SIGNAL = 6;
    private static final int CHILD = 7;
    private static final int ENDED = 8;
    private static final int DREW = 9;
    private static final int MARKED = 10;
    private static final int UNDOES = 11;
    private static final int ASKED = 12;
    private static final int END = 13;
    private static final int BEGAN = 14;

    private static final int ENDS_WELL = 1;
    private static final int ENDS_FAILED = 2;
    private static final int ENDS_CANCELLED = 3;
    private static final int ENDS_AS_NEW = 4;
    /** What state() tells of a workflow that does not go with the code. */
    private static final int ASTRAY = 5;

    private static final int FOR_NOTHING = 0;
    private static final int FOR_ACTIVITY = 1;
    private static final int FOR_TIMER = 2;
    private static final int FOR_SIGNAL = 3;
    private static final int FOR_EITHER = 4;
    private static final int FOR_CHILD = 5;
    private static final int FOR_UNDOING = 6;

    private static final int READY = 0;
    private static final int RUNS = 1;
    private static final int RESTS = 2;
    private static final int CLOSED = 3;

    private final Program[] programs = new Program[PROGRAMS];
    private final int[] served = new int[PROGRAMS];
    private final Flow[] flows = new Flow[WORKFLOWS];
    private final ArrayList<Task> work = new ArrayList<Task>();
    /** Those that are going on: each one was started by that ahead of it, and the last one moves. */
    private final Line going = new Line();
    /** Parents whose child has ended: they go on when nobody else does. */
    private final Line later = new Line();
    private final Run scratch;
    private int flowCount;
    private int clock;
    private int tokens;
    private int chance = 1;

    public Loomkeeper() {
        for (int i = 0; i < programs.length; i++) {
            programs[i] = new Program(i);
        }
        Program first = new Program(0);
        for (int i = 0; i < flows.length; i++) {
            History history = new History();
            flows[i] = new Flow(i, first, history, new Run(first, history));
        }
        scratch = new Run(first, new History());
    }

    // ---- programs

    public int set(int program, int step, int kind, int a, int b)
            throws IndexOutOfBoundsException, IllegalArgumentException {
        Program p = programAt(program);
        if (p == null || !isBelow(step, STEPS)) {
            throw new IndexOutOfBoundsException("no such step");
        }
        if (!isStep(kind, a, b)) {
            throw new IllegalArgumentException("no such operation");
        }
        p.put(step, kind, a, b);
        findAgain(p);
        for (int i = 0; i < flowCount; i++) {
            Flow f = flowAt(i);
            if (f != null && f.program == p && !f.hasEnded()) {
                goOn(f);
            }
        }
        return countAstray(p);
    }

    public int check(int program, int step, int kind, int a, int b)
            throws IndexOutOfBoundsException, IllegalArgumentException {
        Program p = programAt(program);
        if (p == null || !isBelow(step, STEPS)) {
            throw new IndexOutOfBoundsException("no such step");
        }
        if (!isStep(kind, a, b)) {
            throw new IllegalArgumentException("no such operation");
        }
        int kindNow = p.operation(step);
        int aNow = p.first(step);
        int bNow = p.second(step);
        p.put(step, kind, a, b);
        int astray = 0;
        for (int i = 0; i < flowCount; i++) {
            Flow f = flowAt(i);
            if (f != null && f.program == p && !f.hasEnded() && replayed(f).astray) {
                astray++;
            }
        }
        p.put(step, kindNow, aNow, bNow);
        return astray;
    }

    // ---- workflows

    public int start(int program, int input)
            throws IndexOutOfBoundsException, IllegalArgumentException, IllegalStateException {
        Program p = programAt(program);
        if (p == null) {
            throw new IndexOutOfBoundsException("no such program");
        }
        if (input < -MOST_VALUE || input > MOST_VALUE) {
            throw new IllegalArgumentException("input is out of range");
        }
        Flow f = open(p, input, NONE, NONE);
        if (f == null) {
            throw new IllegalStateException("there is no room for a workflow");
        }
        goOn(f);
        return f.index;
    }

    public boolean signal(int workflow, int signal, int with)
            throws IndexOutOfBoundsException, IllegalArgumentException {
        Flow f = flowAt(workflow);
        if (f == null) {
            throw new IndexOutOfBoundsException("no such workflow");
        }
        if (!isBelow(signal, NUMBERS) || !isBelow(with, NUMBERS)) {
            throw new IllegalArgumentException("no such signal");
        }
        return send(f, SIGNAL, (long) NUMBERS * signal + with);
    }

    public boolean cancel(int workflow) throws IndexOutOfBoundsException {
        Flow f = flowAt(workflow);
        if (f == null) {
            throw new IndexOutOfBoundsException("no such workflow");
        }
        return send(f, ASKED, 0);
    }

    public int reset(int workflow, int events)
            throws IndexOutOfBoundsException, IllegalArgumentException, IllegalStateException {
        Flow old = flowAt(workflow);
        if (old == null) {
            throw new IndexOutOfBoundsException("no such workflow");
        }
        if (events < 1 || events > old.eventsAheadOfEnd()) {
            throw new IllegalArgumentException("there are not so many events");
        }
        Flow f = old.hasEnded() && canLead(old, events) ? openAgain(old, events) : null;
        if (f == null) {
            throw new IllegalStateException("it cannot be reset");
        }
        goOn(f);
        for (int i = events; i < old.history.size(); i++) {
            if (old.history.kindAt(i) == SIGNAL) {
                send(f, SIGNAL, old.history.numberAt(i));
            }
        }
        return f.index;
    }

    public int crash() {
        int open = 0;
        for (int i = 0; i < flowCount; i++) {
            Flow f = flowAt(i);
            if (f != null && !f.hasEnded()) {
                f.findAgain();
                open++;
            }
        }
        return open;
    }

    // ---- workers, time

    public int poll() {
        Task best = null;
        for (int i = 0; i < flowCount; i++) {
            Task t = movingTask(i, READY);
            if (t != null && (best == null || isAhead(t, best))) {
                best = t;
            }
        }
        if (best == null) {
            return NONE;
        }
        tokens++;
        best.run(tokens, clock + LEASE);
        serve(best.flow.program.index);
        return tokens;
    }

    public boolean complete(int token, int result) throws IllegalArgumentException {
        if (result < -MOST_VALUE || result > MOST_VALUE) {
            throw new IllegalArgumentException("result is out of range");
        }
        Task t = runningTask(token);
        if (t == null) {
            return false;
        }
        t.finish(DONE, result);
        goOn(t.flow);
        return true;
    }

    public boolean fail(int token) {
        Task t = runningTask(token);
        if (t == null) {
            return false;
        }
        t.loseTry(clock);
        goOn(t.flow);
        return true;
    }

    public boolean beat(int token) {
        Task t = runningTask(token);
        if (t == null) {
            return false;
        }
        t.until = clock + LEASE;
        return true;
    }

    public int tick(int ticks) throws IllegalArgumentException {
        if (ticks < 1 || ticks > MOST_TICKS) {
            throw new IllegalArgumentException("ticks are out of range");
        }
        for (int i = 0; i < ticks; i++) {
            clock++;
            passTasks();
            passTimers();
        }
        return clock;
    }

    // ---- what there is

    public int workflows() {
        return flowCount;
    }

    public int state(int workflow) throws IndexOutOfBoundsException {
        Flow f = flowAt(workflow);
        if (f == null) {
            throw new IndexOutOfBoundsException("no such workflow");
        }
        if (f.hasEnded()) {
            return f.history.ending();
        }
        return f.run.astray ? ASTRAY : 0;
    }

    public int about(int workflow, int what)
            throws IndexOutOfBoundsException, IllegalArgumentException, IllegalStateException {
        Flow f = flowAt(workflow);
        if (f == null) {
            throw new IndexOutOfBoundsException("no such workflow");
        }
        if (!isBelow(what, FACTS)) {
            throw new IllegalArgumentException("no such fact");
        }
        // The run of one that has ended is not kept up when its code becomes another.
        Run r = f.hasEnded() ? replayed(f) : f.run;
        if (r.astray) {
            throw new IllegalStateException("it does not go with the code");
        }
        return fact(f, r, what);
    }

    public int aboutAnew(int workflow, int what)
            throws IndexOutOfBoundsException, IllegalArgumentException, IllegalStateException {
        Flow f = flowAt(workflow);
        if (f == null) {
            throw new IndexOutOfBoundsException("no such workflow");
        }
        if (!isBelow(what, FACTS)) {
            throw new IllegalArgumentException("no such fact");
        }
        Run r = replayed(f);
        if (r.astray) {
            throw new IllegalStateException("it does not go with the code");
        }
        return fact(f, r, what);
    }

    public int parent(int workflow) throws IndexOutOfBoundsException {
        Flow f = flowAt(workflow);
        if (f == null) {
            throw new IndexOutOfBoundsException("no such workflow");
        }
        return f.parent;
    }

    public int events(int workflow) throws IndexOutOfBoundsException {
        Flow f = flowAt(workflow);
        if (f == null) {
            throw new IndexOutOfBoundsException("no such workflow");
        }
        return f.history.size();
    }

    public int kind(int workflow, int event) throws IndexOutOfBoundsException {
        Flow f = flowAt(workflow);
        if (f == null || !isBelow(event, f.history.size())) {
            throw new IndexOutOfBoundsException("no such event");
        }
        return f.history.kindAt(event);
    }

    public long number(int workflow, int event) throws IndexOutOfBoundsException {
        Flow f = flowAt(workflow);
        if (f == null || !isBelow(event, f.history.size())) {
            throw new IndexOutOfBoundsException("no such event");
        }
        return f.history.numberAt(event);
    }

    public int tasks() {
        return work.size();
    }

    public int task(int task, int what) throws IndexOutOfBoundsException, IllegalArgumentException {
        Task t = taskAt(task);
        if (t == null) {
            throw new IndexOutOfBoundsException("no such task");
        }
        if (!isBelow(what, TASK_FACTS)) {
            throw new IllegalArgumentException("no such fact");
        }
        return t.fact(what);
    }

    public int now() {
        return clock;
    }

    // ---- looking things up

    private static boolean isBelow(int number, int bound) {
        return number >= 0 && number < bound;
    }

    private static boolean isStep(int kind, int a, int b) {
        return isBelow(kind, OPERATIONS) && isBelow(a, NUMBERS) && isBelow(b, NUMBERS);
    }

    private Program programAt(int program) {
        return program >= 0 && program < programs.length ? programs[program] : null;
    }

    private Flow flowAt(int workflow) {
        boolean is = workflow >= 0 && workflow < flowCount && workflow < flows.length;
        return is ? flows[workflow] : null;
    }

    private Task taskAt(int task) {
        return task >= 0 && task < work.size() ? work.get(task) : null;
    }

    /** The task that a workflow waits for, if it is in the state, and does not stand still. */
    private Task movingTask(int workflow, int state) {
        Flow f = flowAt(workflow);
        if (f == null || f.run.astray) {
            return null;
        }
        Task t = f.task;
        return t != null && t.state == state ? t : null;
    }

    private Task runningTask(int token) {
        for (int i = 0; i < flowCount; i++) {
            Task t = movingTask(i, RUNS);
            if (t != null && t.token == token) {
                return t;
            }
        }
        return null;
    }

    private Run replayed(Flow f) {
        scratch.begin(f.program, f.history);
        scratch.advance(f.history.size());
        return scratch;
    }

    private int countAstray(Program p) {
        int astray = 0;
        for (int i = 0; i < flowCount; i++) {
            Flow f = flowAt(i);
            if (f != null && f.program == p && !f.hasEnded() && f.run.astray) {
                astray++;
            }
        }
        return astray;
    }

    private int fact(Flow f, Run r, int what) {
        switch (what) {
            case 0:
                return f.program.index;
            case 1:
                return r.place;
            case 2:
                return r.value;
            case 3:
                return r.waits;
            case 4:
                Task t = r.waitsForActivity() ? f.task : null;
                return t != null ? t.index : r.waitedNumber();
            case 5:
                return r.pile.size();
            case 6:
                return r.shielded ? 1 : 0;
            case 7:
                return r.over ? 0 : r.ending;
            default:
                return r.kept.size();
        }
    }

    // ---- going on

    private void findAgain(Program p) {
        for (int i = 0; i < flowCount; i++) {
            Flow f = flowAt(i);
            if (f != null && f.program == p && !f.hasEnded()) {
                f.findAgain();
            }
        }
    }

    /** Brings a signal, or that it is asked to cancel, to a workflow; whether it came in. */
    private boolean send(Flow f, int kind, long number) {
        if (!f.canReceive()) {
            return false;
        }
        f.history.add(kind, number);
        goOn(f);
        return true;
    }

    /** Lets a workflow go on, and all those that go on by that. */
    private void goOn(Flow first) {
        going.addLast(first);
        for (int i = 0; i < MANY; i++) {
            if (going.isEmpty()) {
                going.addLast(later.removeFirst());
            }
            Flow f = going.last();
            if (f == null) {
                return;
            }
            f.run.advance(f.history.size());
            f.letGo();
            if (f.run.wantsEvent()) {
                Flow started = make(f);
                // It has to wait for its child by the time that ends, which may be at once.
                f.run.advance(f.history.size());
                going.addLast(started);
            } else {
                leave(f);
            }
        }
    }

    /** Makes the event that a workflow's step asks for; returns the workflow started by it. */
    private Flow make(Flow f) {
        int kind = f.run.wanted;
        long number = f.run.wantedNumber;
        Flow started = null;
        if (kind == CHILD || kind == BEGAN) {
            started = launch(f, kind, (int) number);
            number = started == null ? NONE : started.index;
        } else if (kind == SCHEDULED || kind == UNDOES) {
            schedule(f, (int) number);
        } else if (kind == TIMER) {
            number = clock + number;
        } else if (kind == DREW) {
            number = draw((int) number);
        }
        f.history.add(kind, number);
        if (kind == END) {
            tellParent(f, number);
        }
        return started;
    }

    /** Takes a workflow that waits, has ended or is astray out of those that are going on. */
    private void leave(Flow f) {
        going.removeLast();
        if (f.run.astray) {
            return;
        }
        boolean asks = f.run.leftAt >= f.through;
        f.through = f.history.size();
        Flow child = asks ? holder(f.run.child) : null;
        if (child != null && child.canReceive()) {
            child.history.add(ASKED, 0);
            going.addLast(child);
        }
    }

    /** The workflow that has a child's place with its parent by now. */
    private Flow holder(int child) {
        Flow f = flowAt(child);
        for (int i = 0; i < WORKFLOWS && f != null && f.heir != NONE; i++) {
            f = flowAt(f.heir);
        }
        return f;
    }

    private void tellParent(Flow f, long end) {
        Flow p = flowAt(f.parent);
        if (p != null && f.history.ending() != ENDS_AS_NEW && p.waitsForChild(f.place)) {
            p.history.add(ENDED, end);
            later.addLast(p);
        }
    }

    /** Opens the workflow that a step starts; null if there is no room. */
    private Flow launch(Flow f, int kind, int program) {
        if (kind == CHILD) {
            return open(programAt(program), f.run.value, f.index, NONE);
        }
        if (program != NONE) {
            return open(programAt(program), f.run.value, NONE, NONE);
        }
        Flow heir = open(f.program, f.run.value, f.parent, f.place);
        if (heir != null) {
            f.heir = heir.index;
        }
        return heir;
    }

    /** Opens a workflow at its beginning; its place with its parent is its own number without one. */
    private Flow open(Program p, int input, int parent, int place) {
        if (p == null || flowCount < 0 || flowCount >= flows.length) {
            return null;
        }
        Flow f = flows[flowCount];
        if (f == null) {
            return null;
        }
        flowCount++;
        f.program = p;
        f.parent = parent;
        f.place = place == NONE ? f.index : place;
        f.history.add(STARTED, input);
        f.run.begin(p, f.history);
        return f;
    }

    private boolean canLead(Flow old, int events) {
        scratch.begin(old.program, old.history);
        scratch.advance(events);
        return !scratch.astray && scratch.waits != FOR_CHILD;
    }

    private Flow openAgain(Flow old, int events) {
        Flow f = open(old.program, (int) old.history.numberAt(0), NONE, NONE);
        if (f == null) {
            return null;
        }
        for (int i = 1; i < events; i++) {
            f.history.add(old.history.kindAt(i), old.history.numberAt(i));
        }
        f.run.advance(events);
        f.through = events;
        if (f.run.waitsForActivity()) {
            schedule(f, (int) f.run.wantedNumber);
        }
        return f;
    }

    // ---- tasks, time, chance

    private void schedule(Flow f, int activity) {
        Task t = new Task(work.size(), f, activity);
        work.add(t);
        f.task = t;
    }

    private boolean isAhead(Task t, Task other) {
        int program = t.flow.program.index;
        int otherProgram = other.flow.program.index;
        if (program == otherProgram) {
            return t.index < other.index;
        }
        int time = servedAt(program);
        int otherTime = servedAt(otherProgram);
        return time < otherTime || time == otherTime && program < otherProgram;
    }

    private int servedAt(int program) {
        return program >= 0 && program < served.length ? served[program] : 0;
    }

    private void serve(int program) {
        if (program >= 0 && program < served.length) {
            served[program] = tokens;
        }
    }

    private void passTasks() {
        for (int i = 0; i < work.size(); i++) {
            Task t = taskAt(i);
            if (t != null && t.isDue(clock)) {
                t.pass(clock);
                goOn(t.flow);
            }
        }
    }

    private void passTimers() {
        for (int i = 0; i < flowCount; i++) {
            Flow f = flowAt(i);
            if (f != null && f.run.isDue(clock)) {
                f.history.add(FIRED, 0);
                goOn(f);
            }
        }
    }

    private int draw(int most) {
        chance = (CHANCE_TIMES * chance + CHANCE_MORE) % CHANCE_MODULO;
        return most < 0 ? 0 : chance % (most + 1);
    }

    /** The code: what each step does. */
    private static final class Program {
        private final int index;
        private final int[] operations = new int[STEPS];
        private final int[] firsts = new int[STEPS];
        private final int[] seconds = new int[STEPS];

        Program(int index) {
            this.index = index;
        }

        void put(int step, int operation, int a, int b) {
            if (step >= 0 && step < operations.length && step < firsts.length && step < seconds.length) {
                operations[step] = operation;
                firsts[step] = a;
                seconds[step] = b;
            }
        }

        int operation(int step) {
            return step >= 0 && step < operations.length ? operations[step] : OP_END;
        }

        int first(int step) {
            return step >= 0 && step < firsts.length ? firsts[step] : 0;
        }

        int second(int step) {
            return step >= 0 && step < seconds.length ? seconds[step] : 0;
        }
    }

    /** The events of a workflow. */
    private static final class History {
        private final byte[] kinds = new byte[LONGEST];
        private final long[] numbers = new long[LONGEST];
        private int count;

        void add(int kind, long number) {
            if (count >= 0 && count < kinds.length && count < numbers.length) {
                kinds[count] = (byte) kind;
                numbers[count] = number;
                count++;
            }
        }

        int size() {
            return count;
        }

        int kindAt(int event) {
            return event >= 0 && event < count && event < kinds.length ? kinds[event] : NONE;
        }

        long numberAt(int event) {
            return event >= 0 && event < count && event < numbers.length ? numbers[event] : 0;
        }

        /** How the workflow has ended; 0 if it has not. */
        int ending() {
            return kindAt(count - 1) == END ? (int) Math.floorMod(numberAt(count - 1), 10L) : 0;
        }
    }

    /** What is to be undone. */
    private static final class Pile {
        private final int[] activities = new int[PILE];
        private int count;

        int size() {
            return count;
        }

        boolean isFull() {
            return count >= PILE;
        }

        void push(int activity) {
            if (count >= 0 && count < activities.length) {
                activities[count] = activity;
                count++;
            }
        }

        int pop() {
            int top = count - 1;
            if (top < 0 || top >= activities.length) {
                return NONE;
            }
            count = top;
            return activities[top];
        }
    }

    /** The signals that came before they were waited for, as their events tell them, as they came. */
    private static final class Signals {
        private final int[] numbers = new int[EVENTS_FOR_SIGNALS];
        private int count;

        int size() {
            return count;
        }

        void keep(int number) {
            if (count >= 0 && count < numbers.length) {
                numbers[count] = number;
                count++;
            }
        }

        /** Where the signal that came first is; NONE without one. */
        int find(int signal) {
            for (int i = 0; i < count && i < numbers.length; i++) {
                if (numbers[i] / NUMBERS == signal) {
                    return i;
                }
            }
            return NONE;
        }

        /** Uses up the one at a place; returns what came with it. */
        int use(int at) {
            if (at < 0 || at >= count || count > numbers.length) {
                return 0;
            }
            int with = numbers[at] % NUMBERS;
            for (int i = at; i + 1 < count; i++) {
                numbers[i] = numbers[i + 1];
            }
            count--;
            return with;
        }
    }

    /**
     * Where a workflow is, by its history and the code. It touches nothing else: when a step makes an
     * event that the history does not have yet, it only tells which one it wants.
     */
    private static final class Run {
        private final Pile pile = new Pile();
        private final Signals kept = new Signals();
        private Program program;
        private History history;
        private int taken;
        private int place;
        private int value;
        private int steps;
        private int waits;
        /** The signal of an AWAIT or a SELECT; NONE for a TIMER. */
        private int signal;
        private int child;
        private long due;
        private boolean shielded;
        private boolean askedInShield;
        private int ending;
        private boolean over;
        /** The kind of the event that the step at hand makes; NONE without one. */
        private int wanted;
        /** Its number, or that by which it is found; for BEGAN the program, or NONE for AS_NEW. */
        private long wantedNumber;
        /** The event by which it did not wait for its child any more. */
        private int leftAt;
        private boolean astray;

        Run(Program program, History history) {
            this.program = program;
            this.history = history;
        }

        void begin(Program code, History events) {
            program = code;
            history = events;
            pile.count = 0;
            kept.count = 0;
            taken = 1;
            place = 0;
            value = (int) events.numberAt(0);
            steps = 0;
            waits = FOR_NOTHING;
            signal = NONE;
            child = NONE;
            due = 0;
            shielded = false;
            askedInShield = false;
            ending = 0;
            over = false;
            wanted = NONE;
            wantedNumber = 0;
            leftAt = NONE;
            astray = false;
        }

        boolean wantsEvent() {
            return !astray && wanted != NONE;
        }

        boolean waitsForActivity() {
            return waits == FOR_ACTIVITY || waits == FOR_UNDOING;
        }

        boolean isDue(int now) {
            return !astray && (waits == FOR_TIMER || waits == FOR_EITHER) && due <= now;
        }

        int waitedNumber() {
            switch (waits) {
                case FOR_TIMER:
                    return (int) due;
                case FOR_SIGNAL:
                case FOR_EITHER:
                    return signal;
                case FOR_CHILD:
                    return child;
                default:
                    return 0;
            }
        }

        /** Goes as far as the first so many events lead. */
        void advance(int events) {
            boolean moves = true;
            for (int i = 0; i < MANY && moves; i++) {
                boolean isNext = taken < events;
                if (astray) {
                    moves = false;
                } else if (wanted != NONE) {
                    moves = isNext;
                    takeWanted(isNext);
                } else if (over) {
                    astray = isNext;
                    moves = false;
                } else if (waits != FOR_NOTHING) {
                    moves = isNext;
                    takeAwaited(isNext);
                } else if (ending != 0) {
                    undo();
                } else {
                    step();
                }
            }
        }

        private void want(int kind, long number) {
            wanted = kind;
            wantedNumber = number;
        }

        private void undo() {
            int activity = pile.pop();
            if (activity == NONE) {
                want(END, 10L * value + ending);
            } else {
                want(UNDOES, activity);
            }
        }

        private void failNow() {
            waits = FOR_NOTHING;
            ending = ENDS_FAILED;
        }

        private void takeWanted(boolean isNext) {
            if (!isNext) {
                return;
            }
            int kind = history.kindAt(taken);
            long number = history.numberAt(taken);
            boolean anyNumber = kind == TIMER || kind == CHILD || kind == DREW || kind == BEGAN;
            if (kind == wanted && (anyNumber || number == wantedNumber)) {
                wanted = NONE;
                taken++;
                if (number < 0 && (kind == CHILD || kind == BEGAN)) {
                    failNow();
                } else {
                    follow(kind, number);
                }
            } else if (wanted == MARKED) {
                wanted = NONE;
                value = 0;
            } else {
                astray = true;
            }
        }

        /** What comes of an event that a step made. */
        private void follow(int kind, long number) {
            switch (kind) {
                case SCHEDULED:
                    waits = FOR_ACTIVITY;
                    break;
                case UNDOES:
                    waits = FOR_UNDOING;
                    break;
                case TIMER:
                    due = number;
                    waits = signal == NONE ? FOR_TIMER : FOR_EITHER;
                    break;
                case CHILD:
                    waits = FOR_CHILD;
                    child = (int) number;
                    break;
                case BEGAN:
                    if (wantedNumber == NONE) {
                        want(END, 10L * value + ENDS_AS_NEW);
                    } else {
                        value = (int) number;
                    }
                    break;
                case DREW:
                    value = (int) number;
                    break;
                case MARKED:
                    value = 1;
                    break;
                default:
                    over = true;
                    break;
            }
        }

        /** Takes an event that comes of no step. */
        private void takeAwaited(boolean isNext) {
            if (!isNext) {
                return;
            }
            int kind = history.kindAt(taken);
            long number = history.numberAt(taken);
            taken++;
            steps = 0;
            if (kind == SIGNAL) {
                receive((int) number);
            } else if (kind == ASKED) {
                beAsked();
            } else if (kind == DONE && waits == FOR_ACTIVITY) {
                waits = FOR_NOTHING;
                value = (int) number;
            } else if (kind == FAILED && waits == FOR_ACTIVITY) {
                failNow();
            } else if ((kind == DONE || kind == FAILED) && waits == FOR_UNDOING) {
                waits = FOR_NOTHING;
            } else if (kind == FIRED && waits == FOR_TIMER) {
                waits = FOR_NOTHING;
            } else if (kind == FIRED && waits == FOR_EITHER) {
                waits = FOR_NOTHING;
                value = 0;
            } else if (kind == ENDED && waits == FOR_CHILD) {
                takeEnded(number);
            } else {
                astray = true;
            }
        }

        private void receive(int number) {
            boolean isFor = (waits == FOR_SIGNAL || waits == FOR_EITHER) && number / NUMBERS == signal;
            if (!isFor) {
                kept.keep(number);
                return;
            }
            value = waits == FOR_EITHER ? 1 : number % NUMBERS;
            waits = FOR_NOTHING;
        }

        private void beAsked() {
            if (ending != 0) {
                return;
            }
            if (shielded) {
                askedInShield = true;
                return;
            }
            if (waits == FOR_CHILD) {
                leftAt = taken - 1;
            }
            waits = FOR_NOTHING;
            ending = ENDS_CANCELLED;
        }

        private void takeEnded(long end) {
            waits = FOR_NOTHING;
            if (Math.floorMod(end, 10L) == ENDS_WELL) {
                value = (int) Math.floorDiv(end, 10L);
            } else {
                failNow();
            }
        }

        private void step() {
            int operation = program.operation(place);
            int a = program.first(place);
            int b = program.second(place);
            place = (place + 1) % STEPS;
            steps++;
            if (steps > STEPS_AT_ONCE || isRefused(operation, a)) {
                failNow();
                return;
            }
            switch (operation) {
                case OP_CALL:
                    want(SCHEDULED, a);
                    break;
                case OP_TIMER:
                    signal = NONE;
                    want(TIMER, Math.max(1, a));
                    break;
                case OP_AWAIT:
                    await(a);
                    break;
                case OP_SELECT:
                    select(a, b);
                    break;
                case OP_CHILD:
                    want(CHILD, a % PROGRAMS);
                    break;
                case OP_START:
                    want(BEGAN, a % PROGRAMS);
                    break;
                case OP_AS_NEW:
                    want(BEGAN, NONE);
                    break;
                case OP_CHANCE:
                    want(DREW, a);
                    break;
                case OP_MARK:
                    want(MARKED, a);
                    break;
                case OP_END:
                    want(END, 10L * value + ENDS_WELL);
                    break;
                default:
                    stepWithoutEvent(operation, a);
                    break;
            }
        }

        private void stepWithoutEvent(int operation, int a) {
            switch (operation) {
                case OP_BRANCH:
                    place = value == 0 ? a % STEPS : place;
                    break;
                case OP_JUMP:
                    place = a % STEPS;
                    break;
                case OP_ADD:
                    value += a;
                    break;
                case OP_TAKE:
                    value -= a;
                    break;
                case OP_UNDO:
                    pile.push(a);
                    break;
                case OP_SHIELD:
                    shielded = true;
                    break;
                case OP_OPEN:
                    shielded = false;
                    ending = askedInShield ? ENDS_CANCELLED : 0;
                    break;
                case OP_FAIL:
                    failNow();
                    break;
                default:
                    break;
            }
        }

        private boolean isRefused(int operation, int a) {
            switch (operation) {
                case OP_UNDO:
                    return pile.isFull();
                case OP_SELECT:
                    return taken >= EVENTS_FOR_STEPS && kept.find(a) == NONE;
                case OP_CALL:
                case OP_TIMER:
                case OP_CHILD:
                case OP_START:
                case OP_CHANCE:
                case OP_MARK:
                case OP_AS_NEW:
                    return taken >= EVENTS_FOR_STEPS;
                default:
                    return false;
            }
        }

        private void await(int a) {
            int at = kept.find(a);
            if (at == NONE) {
                signal = a;
                waits = FOR_SIGNAL;
            } else {
                value = kept.use(at);
            }
        }

        private void select(int a, int b) {
            int at = kept.find(a);
            if (at == NONE) {
                signal = a;
                want(TIMER, Math.max(1, b));
            } else {
                kept.use(at);
                value = 1;
            }
        }
    }

    /** An activity that was scheduled. */
    private static final class Task {
        private final int index;
        private final Flow flow;
        private final int activity;
        private int state = READY;
        private int tries;
        private int token;
        private int until;

        Task(int index, Flow flow, int activity) {
            this.index = index;
            this.flow = flow;
            this.activity = activity;
        }

        int fact(int what) {
            switch (what) {
                case 0:
                    return flow.index;
                case 1:
                    return activity;
                case 2:
                    return state;
                case 3:
                    return tries;
                case 4:
                    return token;
                default:
                    return until;
            }
        }

        void run(int newToken, int end) {
            state = RUNS;
            token = newToken;
            until = end;
        }

        void close() {
            state = CLOSED;
            until = 0;
            flow.task = null;
        }

        void finish(int kind, int number) {
            close();
            flow.history.add(kind, number);
        }

        void loseTry(int now) {
            tries++;
            if (tries >= TRIES) {
                finish(FAILED, 0);
                return;
            }
            state = RESTS;
            until = now + (1 << tries);
        }

        boolean isDue(int now) {
            return (state == RUNS || state == RESTS) && until <= now && !flow.run.astray;
        }

        void pass(int now) {
            if (state == RUNS) {
                loseTry(now);
                return;
            }
            state = READY;
            until = 0;
        }
    }

    /** A workflow. */
    private static final class Flow {
        private final int index;
        private final History history;
        private final Run run;
        private Program program;
        private int parent = NONE;
        /** The number that the parent knows it by: that of the first of those that went on as new. */
        private int place = NONE;
        /** The one that it went on as. */
        private int heir = NONE;
        /** The task that it waits for. */
        private Task task;
        /** How many events it has gone through: an ASKED among them asks no child any more. */
        private int through;

        Flow(int index, Program program, History history, Run run) {
            this.index = index;
            this.program = program;
            this.history = history;
            this.run = run;
        }

        boolean hasEnded() {
            return history.ending() != 0;
        }

        int eventsAheadOfEnd() {
            return hasEnded() ? history.size() - 1 : history.size();
        }

        boolean canReceive() {
            return !hasEnded() && history.size() < EVENTS_FOR_SIGNALS;
        }

        boolean waitsForChild(int child) {
            return !run.astray && run.waits == FOR_CHILD && run.child == child;
        }

        void findAgain() {
            run.begin(program, history);
            run.advance(history.size());
        }

        /** Closes the task, if it is not waited for any more. */
        void letGo() {
            Task t = task;
            if (t != null && !run.astray && !run.waitsForActivity()) {
                t.close();
            }
        }
    }

    /** Workflows in a row. */
    private static final class Line {
        private final Flow[] flows = new Flow[LINE];
        private int from;
        private int to;

        boolean isEmpty() {
            return from >= to;
        }

        void addLast(Flow f) {
            if (f != null && to >= 0 && to < flows.length) {
                flows[to] = f;
                to++;
            }
        }

        Flow last() {
            int at = to - 1;
            return at >= from && at >= 0 && at < flows.length ? flows[at] : null;
        }

        void removeLast() {
            if (to > from) {
                to--;
            }
        }

        Flow removeFirst() {
            if (from < 0 || from >= to || from >= flows.length) {
                from = 0;
                to = 0;
                return null;
            }
            Flow f = flows[from];
            from++;
            return f;
        }
    }
}
