/** Promises 4, 6, 16 and 18, and the Terms: CHILD, START and AS_NEW, and who goes on when. */
public final class ChildrenTest {
    public static void main(String[] args) {
        childWaitedFor();
        childThatEndsAtOnce();
        childThatFails();
        childCancelled();
        startedOnes();
        noRoom();
        deepOnes();
        asNewHasItsPlace();
        asNewEndsAheadOfTheParent();
        startedOnesGoOnAhead();
        askedAsWell();
        askedBehindIt();
        askedIsTheOneThatHasThePlace();
        askedOnlyOnce();
        endedIsLost();
        parentGoesOnBehindAll();
        Due.end();
    }

    private static void childWaitedFor() {
        Loomkeeper x = new Loomkeeper();
        Due.code(x, 0, Due.s(Due.ADD, 3), Due.s(Due.CHILD, 11), Due.s(Due.AWAIT, 2));
        Due.code(x, 5, Due.s(Due.ADD, 1), Due.s(Due.AWAIT, 1));
        x.start(0, 4);
        Due.about("the parent", x, 0, 2, 7, 5, 1, 0, 0, 0, 0);
        Due.is("of the program 11 modulo 6", x.about(1, 0), 5);
        Due.is("parent", x.parent(1), 0);
        Due.is("parent", x.parent(0), -1);
        Due.about("the child", x, 1, 2, 8, 3, 1, 0, 0, 0, 0);
        x.signal(1, 1, 60);
        Due.history("the child", x, 1, 0, 7, 6, 160, 13, 601);
        Due.history("the parent", x, 0, 0, 4, 7, 1, 8, 601);
        Due.about("the parent", x, 0, 3, 60, 3, 2, 0, 0, 0, 0);
        Due.is("its parent still", x.parent(1), 0);
    }

    private static void childThatEndsAtOnce() {
        Loomkeeper x = new Loomkeeper();
        Due.code(x, 0, Due.s(Due.CHILD, 1), Due.s(Due.CALL, 4));
        Due.code(x, 1, Due.s(Due.TAKE, 50));
        x.start(0, 4);
        Due.history("the parent", x, 0, 0, 4, 7, 1, 8, -459, 1, 4);
        Due.is("value", x.about(0, 2), -46);
    }

    private static void childThatFails() {
        Loomkeeper x = new Loomkeeper();
        Due.code(x, 0, Due.s(Due.UNDO, 2), Due.s(Due.CHILD, 1));
        Due.code(x, 1, Due.s(Due.ADD, 50), Due.s(Due.FAIL));
        x.start(0, 4);
        Due.history("the parent", x, 0, 0, 4, 7, 1, 8, 542, 11, 2);
        Due.about("it undoes", x, 0, 2, 4, 6, 0, 0, 0, 2, 0);
        x.complete(x.poll(), 0);
        Due.is("state", x.state(0), 2);
    }

    private static void childCancelled() {
        Loomkeeper x = new Loomkeeper();
        Due.code(x, 0, Due.s(Due.CHILD, 1));
        Due.code(x, 1, Due.s(Due.AWAIT, 1));
        x.start(0, -4);
        Due.is("cancel", x.cancel(1), true);
        Due.is("the child", x.state(1), 3);
        Due.is("the parent", x.state(0), 2);
        Due.history("the parent", x, 0, 0, -4, 7, 1, 8, -37, 13, -38);
    }

    private static void startedOnes() {
        Loomkeeper x = new Loomkeeper();
        Due.code(x, 0, Due.s(Due.START, 7), Due.s(Due.START, 1), Due.s(Due.AWAIT, 3));
        Due.code(x, 1, Due.s(Due.AWAIT, 1), Due.s(Due.FAIL));
        x.start(0, 9);
        Due.history("BEGAN", x, 0, 0, 9, 14, 1, 14, 2);
        Due.about("the value is its number", x, 0, 3, 2, 3, 3, 0, 0, 0, 0);
        Due.is("the input is the value", x.number(1, 0), 9);
        Due.is("the input is the value", x.number(2, 0), 1);
        Due.is("not waited for", x.parent(1), -1);
        x.signal(1, 1, 1);
        x.cancel(2);
        Due.is("nothing comes of it", x.events(0), 3);
        x.cancel(0);
        Due.is("nothing comes to it", x.events(2), 3);
    }

    private static void noRoom() {
        int[] ops = {Due.CHILD, Due.START, Due.AS_NEW};
        int[] kinds = {7, 14, 14};
        for (int i = 0; i < 3; i++) {
            Loomkeeper x = new Loomkeeper();
            Due.code(x, 0, Due.s(Due.UNDO, 6), Due.s(ops[i], 1), Due.s(Due.AWAIT, 1));
            for (int j = 0; j < 39; j++) {
                x.start(1, 0);
            }
            x.start(0, 8);
            Due.history("no room", x, 39, 0, 8, kinds[i], -1, 11, 6);
            Due.about("it failed", x, 39, 2, 8, 6, 0, 0, 0, 2, 0);
            x.crash();
            x.complete(x.poll(), 1);
            Due.is("state", x.state(39), 2);
            Due.is("workflows", x.workflows(), 40);
        }
    }

    private static void deepOnes() {
        Loomkeeper x = new Loomkeeper();
        Due.code(x, 0, Due.s(Due.ADD, 1), Due.s(Due.CHILD, 0), Due.s(Due.ADD, 50));
        x.start(0, 0);
        Due.history("the last one", x, 39, 0, 39, 7, -1, 13, 402);
        for (int i = 0; i < 39; i++) {
            Due.history("each one fails by the next", x, i, 0, i, 7, i + 1, 8, 10 * (i + 2) + 2, 13, 10 * (i + 1) + 2);
        }
        Loomkeeper y = new Loomkeeper();
        Due.code(y, 0, Due.s(Due.BRANCH, 4), Due.s(Due.TAKE, 1), Due.s(Due.CHILD, 0), Due.s(Due.ADD, 50));
        y.start(0, 39);
        Due.is("workflows", y.workflows(), 40);
        Due.history("the first one", y, 0, 0, 39, 7, 1, 8, 39 * 500 - 499, 13, 39 * 500 + 1);
    }

    private static void asNewHasItsPlace() {
        Loomkeeper x = new Loomkeeper();
        Due.code(x, 0, Due.s(Due.CHILD, 1), Due.s(Due.AWAIT, 7));
        Due.code(x, 1, Due.s(Due.UNDO, 1), Due.s(Due.SHIELD), Due.s(Due.AWAIT, 1), Due.s(Due.BRANCH, 6), Due.s(Due.AS_NEW));
        x.start(0, 5);
        x.signal(1, 2, 2);
        x.signal(1, 1, 3);
        Due.is("as new", x.state(1), 4);
        Due.history("as new", x, 1, 0, 5, 6, 202, 6, 103, 14, 2, 13, 34);
        Due.about("the old one", x, 1, 5, 3, 0, 0, 1, 1, 0, 1);
        Due.history("the new one", x, 2, 0, 3);
        Due.about("the new one", x, 2, 3, 3, 3, 1, 1, 1, 0, 0);
        Due.is("parent of the old one", x.parent(1), 0);
        Due.is("parent of the new one", x.parent(2), 0);
        Due.about("the parent knows it by CHILD", x, 0, 1, 5, 5, 1);
        Due.is("nothing came to the parent", x.events(0), 2);
        x.signal(2, 1, 4);
        Due.is("parent of a newer one", x.parent(3), 0);
        x.signal(3, 1, 0);
        Due.is("the newest one ends", x.state(3), 1);
        Due.history("the parent", x, 0, 0, 5, 7, 1, 8, 1);
        Due.about("the parent", x, 0, 2, 0, 3, 7);
        x.start(1, 1);
        x.signal(4, 1, 9);
        Due.is("no parent", x.parent(5), -1);
    }

    private static void asNewEndsAheadOfTheParent() {
        Loomkeeper y = new Loomkeeper();
        Due.code(y, 0, Due.s(Due.CHILD, 1), Due.s(Due.CALL, 2), Due.s(Due.AWAIT, 7));
        Due.code(y, 1, Due.s(Due.BRANCH, 4), Due.s(Due.AWAIT, 1), Due.s(Due.AS_NEW));
        y.start(0, 5);
        y.signal(1, 1, 0);
        Due.history("the old one", y, 1, 0, 5, 6, 100, 14, 2, 13, 4);
        Due.history("the new one", y, 2, 0, 0, 13, 1);
        Due.history("the parent", y, 0, 0, 5, 7, 1, 8, 1, 1, 2);
    }

    private static void startedOnesGoOnAhead() {
        Loomkeeper x = new Loomkeeper();
        Due.code(x, 0, Due.s(Due.START, 1), Due.s(Due.CALL, 10));
        Due.code(x, 1, Due.s(Due.CHILD, 2), Due.s(Due.CALL, 11));
        Due.code(x, 2, Due.s(Due.START, 3));
        Due.code(x, 3, Due.s(Due.CALL, 13));
        x.start(0, 0);
        Due.is("tasks", x.tasks(), 3);
        // 1 waits for 2, that ends at once, and 1 goes on ahead of the next step of 0.
        Due.task("of the last one started", x, 0, 3, 13);
        Due.task("of the one behind its child", x, 1, 1, 11);
        Due.task("of the first one", x, 2, 0, 10);
        Due.history("0", x, 0, 0, 0, 14, 1, 1, 10);
        Due.history("1", x, 1, 0, 0, 7, 2, 8, 31, 1, 11);
        Due.history("2", x, 2, 0, 0, 14, 3, 13, 31);
    }

    /** 0 waits for its child 1, and that for its child 2. */
    private static Loomkeeper three(int[] undone) {
        Loomkeeper x = new Loomkeeper();
        for (int p = 0; p < 3; p++) {
            int[] first = undone[p] == 0 ? Due.s(Due.ADD, 0) : Due.s(Due.UNDO, undone[p]);
            Due.code(x, p, first, p == 2 ? Due.s(Due.AWAIT, 1) : Due.s(Due.CHILD, p + 1));
        }
        x.start(0, 0);
        return x;
    }

    private static void askedAsWell() {
        Loomkeeper x = three(new int[] {5, 6, 7});
        Due.is("cancel", x.cancel(0), true);
        Due.history("0", x, 0, 0, 0, 7, 1, 12, 0, 11, 5);
        Due.history("1", x, 1, 0, 0, 7, 2, 12, 0, 11, 6);
        Due.history("2", x, 2, 0, 0, 12, 0, 11, 7);
        for (int i = 0; i < 3; i++) {
            Due.task("by the order of asking", x, i, i, 5 + i);
        }
        for (int i = 0; i < 3; i++) {
            x.complete(x.poll(), 0);
            Due.is("state", x.state(i), 3);
        }
        Due.is("the parent does not wait any more", x.events(0), 6);
        // One that undoes, or is in a shield, asks no child.
        Loomkeeper y = new Loomkeeper();
        Due.code(y, 0, Due.s(Due.SHIELD), Due.s(Due.CHILD, 1), Due.s(Due.OPEN));
        Due.code(y, 1, Due.s(Due.AWAIT, 1));
        y.start(0, 0);
        Due.is("cancel", y.cancel(0), true);
        Due.is("no child is asked in a shield", y.events(1), 1);
        y.signal(1, 1, 8);
        Due.history("at the step that opens it", y, 0, 0, 0, 7, 1, 12, 0, 8, 81, 13, 83);
    }

    private static void askedBehindIt() {
        // 1 has nothing to undo: it ends, its parent gets ENDED, its child is asked.
        Loomkeeper x = three(new int[] {5, 0, 7});
        Due.is("cancel", x.cancel(1), true);
        Due.history("0", x, 0, 0, 0, 7, 1, 8, 3, 11, 5);
        Due.history("1", x, 1, 0, 0, 7, 2, 12, 0, 13, 3);
        Due.history("2", x, 2, 0, 0, 12, 0, 11, 7);
        Due.is("tasks", x.tasks(), 2);
    }

    private static void askedIsTheOneThatHasThePlace() {
        Loomkeeper x = new Loomkeeper();
        Due.code(x, 0, Due.s(Due.CHILD, 1));
        Due.code(x, 1, Due.s(Due.AWAIT, 1), Due.s(Due.AS_NEW));
        x.start(0, 0);
        x.signal(1, 1, 0);
        x.signal(2, 1, 0);
        x.cancel(0);
        Due.is("state", x.state(0), 3);
        Due.history("the newest one is asked", x, 3, 0, 0, 12, 0, 13, 3);
        Due.is("the one ahead of it", x.state(2), 4);
    }

    private static void askedOnlyOnce() {
        Loomkeeper x = new Loomkeeper();
        Due.code(x, 0, Due.s(Due.SHIELD), Due.s(Due.UNDO, 1), Due.s(Due.CHILD, 1));
        Due.code(x, 1, Due.s(Due.AWAIT, 1));
        x.start(0, 0);
        x.cancel(0);
        x.crash();
        x.set(0, 0, Due.ADD, 0, 0);
        Due.history("it undoes by the code without the shield", x, 0, 0, 0, 7, 1, 12, 0, 11, 1);
        Due.is("the ASKED that it has gone through asks no child", x.events(1), 1);
        // One that came while it was astray does, as soon as it goes again.
        Loomkeeper y = new Loomkeeper();
        Due.code(y, 0, Due.s(Due.UNDO, 1), Due.s(Due.CHILD, 1));
        Due.code(y, 1, Due.s(Due.UNDO, 2), Due.s(Due.AWAIT, 1));
        y.start(0, 0);
        y.set(0, 1, Due.CALL, 1, 0);
        Due.is("cancel one astray", y.cancel(0), true);
        Due.is("nothing happens yet", y.events(1), 1);
        Due.is("check asks nobody", y.check(0, 1, Due.CHILD, 1, 0), 0);
        Due.is("nothing happens yet", y.events(1), 1);
        y.crash();
        Due.is("set", y.set(0, 1, Due.CHILD, 2, 0), 0);
        Due.history("0", y, 0, 0, 0, 7, 1, 12, 0, 11, 1);
        Due.history("its child is asked", y, 1, 0, 0, 12, 0, 11, 2);
        Due.task("behind it", y, 0, 0, 1);
        Due.task("behind it", y, 1, 1, 2);
        // In a shield by the new code, and in none by the code after that.
        Loomkeeper z = new Loomkeeper();
        Due.code(z, 0, Due.s(Due.ADD, 0), Due.s(Due.CHILD, 1));
        Due.code(z, 1, Due.s(Due.AWAIT, 1));
        z.start(0, 0);
        z.set(0, 0, Due.CALL, 1, 0);
        z.cancel(0);
        z.set(0, 0, Due.SHIELD, 0, 0);
        Due.about("it has gone through it", z, 0, 2, 0, 5, 1, 0, 1, 0, 0);
        z.set(0, 0, Due.ADD, 0, 0);
        Due.is("cancelled", z.state(0), 3);
        Due.is("its child is not asked", z.events(1), 1);
    }

    private static void endedIsLost() {
        Loomkeeper x = new Loomkeeper();
        Due.code(x, 0, Due.s(Due.CHILD, 1));
        Due.code(x, 1, Due.s(Due.AWAIT, 1));
        x.start(0, 0);
        x.set(0, 0, Due.CALL, 1, 0);
        x.signal(1, 1, 1);
        Due.is("the child", x.state(1), 1);
        Due.is("nothing came to the parent", x.events(0), 2);
        x.set(0, 0, Due.CHILD, 1, 0);
        Due.about("it waits for a child that has ended", x, 0, 1, 0, 5, 1);
        x.cancel(0);
        Due.is("state", x.state(0), 3);
        Due.is("nothing comes to one that has ended", x.events(1), 3);
    }

    private static void parentGoesOnBehindAll() {
        // 1 goes on as 3, that starts 4, and ends: 0 goes on when all of them have.
        Loomkeeper y = new Loomkeeper();
        Due.code(y, 0, Due.s(Due.CHILD, 1), Due.s(Due.CALL, 10));
        Due.code(y, 1, Due.s(Due.BRANCH, 6), Due.s(Due.AWAIT, 1), Due.s(Due.START, 2), Due.s(Due.AWAIT, 2),
            Due.s(Due.AS_NEW));
        y.set(1, 6, Due.START, 2, 0);
        Due.code(y, 2, Due.s(Due.CALL, 12));
        y.start(0, 3);
        y.signal(1, 1, 1);
        y.signal(1, 2, 0);
        Due.is("tasks", y.tasks(), 3);
        Due.task("of the one started first", y, 0, 2, 12);
        Due.task("of the one started by the new one", y, 1, 4, 12);
        Due.task("of the parent", y, 2, 0, 10);
        Due.history("the old one", y, 1, 0, 3, 6, 101, 14, 2, 6, 200, 14, 3, 13, 4);
        Due.history("the new one", y, 3, 0, 0, 14, 4, 13, 41);
    }
}
