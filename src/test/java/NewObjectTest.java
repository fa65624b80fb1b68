/** Promise 1: a new object; 14, 22 and 24 on it. */
public final class NewObjectTest {
    public static void main(String[] args) {
        Loomkeeper x = new Loomkeeper();
        Due.is("now", x.now(), 0);
        Due.is("workflows", x.workflows(), 0);
        Due.is("tasks", x.tasks(), 0);
        Due.is("crash", x.crash(), 0);
        Due.is("poll", x.poll(), -1);
        allStepsAreEnd();
        objectsAreApart();
        Due.end();
    }

    private static void allStepsAreEnd() {
        Loomkeeper x = new Loomkeeper();
        for (int program = 0; program < 6; program++) {
            int w = x.start(program, program);
            Due.is("state in program " + program, x.state(w), 1);
            Due.history("program " + program, x, w, 0, program, 13, 10 * program + 1);
            Due.is("place in program " + program, x.about(w, 1), 1);
        }
        // The steps behind the first one are seen by leaving each one ahead of them out in turn.
        for (int step = 0; step < 19; step++) {
            x.set(5, step, Due.ADD, 0, 0);
            int w = x.start(5, 7);
            Due.is("place behind step " + step, x.about(w, 1), (step + 2) % 20);
            Due.is("state", x.state(w), 1);
        }
    }

    private static void objectsAreApart() {
        Loomkeeper x = new Loomkeeper();
        Loomkeeper y = new Loomkeeper();
        x.set(0, 0, Due.CHANCE, 99, 0);
        x.start(0, 0);
        x.tick(3);
        Due.is("now of another one", y.now(), 0);
        Due.is("workflows of another one", y.workflows(), 0);
        y.set(0, 0, Due.CHANCE, 99, 0);
        Due.is("start in another one", y.start(0, 0), 0);
        Due.is("chance of another one", y.about(0, 2), 49);
    }
}
