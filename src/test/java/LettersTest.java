/** Promises 1 to 7: a new object, and the calls that change it. */
final class LettersTest {
    private static final Checks CHECKS = new Checks("LettersTest");

    public static void main(String[] args) {
        promise1NewObject();
        promise2Letter();
        promise2Edges();
        promise2Refusals();
        promise3Delete();
        promise3Forgets();
        promise4Split();
        promise5Join();
        promise5Refusals();
        promise5JoinedToADeletedLetter();
        promise6Release();
        promise7Read();
        promise7ReadOfAMissingId();
        refusalsChangeNothing();
        CHECKS.finish();
    }

    private static void promise1NewObject() {
        Threadline line = new Threadline();
        CHECKS.equal("roots of a new object", line.roots(), 0);
        for (int id = 0; id < 30; id++) {
            int it = id;
            CHECKS.equal("state of a new object", line.state(id), 0);
            CHECKS.outOfBounds("parent of a new object", () -> line.parent(it));
            CHECKS.illegalState("delete of a new object", () -> line.delete(it));
            CHECKS.outOfBounds("root of a new object", () -> line.root(it));
        }
        line.letter(3, -1, -1, 0, 5, 1);
        CHECKS.equal("another new object", new Threadline().roots(), 0);
    }

    private static void promise2Letter() {
        Threadline line = new Threadline();
        CHECKS.equal("first letter", line.letter(4, -1, -1, 3, 10, 2), 1);
        CHECKS.equal("second conversation", line.letter(5, -1, -1, 4, 10, 2), 2);
        CHECKS.equal("a child", line.letter(6, -1, 4, 13, 11, 3), 2);
        CHECKS.equal("its parent", line.parent(6), 4);
        CHECKS.equal("unread at first", line.unread(4), 2);
        CHECKS.equal("a reply found by its subject", line.letter(7, -1, -1, 14, 12, 1), 2);
        CHECKS.equal("its parent", line.parent(7), 5);
        CHECKS.equal("a letter between", line.letter(2, -1, 9, 5, 9, 1), 3);
        CHECKS.equal("the told one comes", line.letter(9, -1, 4, 5, 9, 1), 2);
    }

    private static void promise2Edges() {
        Threadline line = new Threadline();
        CHECKS.equal("lowest of all", line.letter(0, 0, 0, 0, 0, 0), 1);
        CHECKS.equal("highest of all", line.letter(29, 29, 29, 19, 999, 9), 2);
        CHECKS.equal("none told", line.letter(15, -1, -1, 10, 0, 9), 2);
        CHECKS.equal("the lowest subject as a reply", line.parent(15), 0);
        CHECKS.equal("the highest person", line.people(29), 1 << 9);
        CHECKS.equal("the lowest person", line.people(0), 1 | 1 << 9);
        CHECKS.equal("the highest day", line.latest(29), 999);
        CHECKS.equal("a letter telling itself has no parent", line.parent(29), -1);
    }

    private static void promise2Refusals() {
        Threadline line = new Threadline();
        line.letter(1, -1, -1, 0, 0, 0);
        for (int bad : Checks.NO_IDS) {
            CHECKS.illegalArgument("id " + bad, () -> line.letter(bad, -1, -1, 0, 0, 0));
            if (bad != -1) {
                CHECKS.illegalArgument("grandparent " + bad, () -> line.letter(2, bad, 3, 0, 0, 0));
                CHECKS.illegalArgument("parent " + bad, () -> line.letter(2, -1, bad, 0, 0, 0));
                CHECKS.illegalArgument("both " + bad, () -> line.letter(2, bad, bad, 0, 0, 0));
            }
        }
        CHECKS.illegalArgument("subject 20", () -> line.letter(2, -1, -1, 20, 0, 0));
        CHECKS.illegalArgument("subject -1", () -> line.letter(2, -1, -1, -1, 0, 0));
        CHECKS.illegalArgument("day 1000", () -> line.letter(2, -1, -1, 0, 1000, 0));
        CHECKS.illegalArgument("day -1", () -> line.letter(2, -1, -1, 0, -1, 0));
        CHECKS.illegalArgument("person 10", () -> line.letter(2, -1, -1, 0, 0, 10));
        CHECKS.illegalArgument("person -1", () -> line.letter(2, -1, -1, 0, 0, -1));
        CHECKS.illegalArgument("grandparent without parent", () -> line.letter(2, 3, -1, 0, 0, 0));
        CHECKS.illegalState("a letter with this id", () -> line.letter(1, -1, -1, 0, 0, 0));
        CHECKS.illegalArgument("argument before state: person", () -> line.letter(1, -1, -1, 0, 0, 10));
        CHECKS.illegalArgument("argument before state: grandparent", () -> line.letter(1, 0, -1, 0, 0, 0));
        CHECKS.equal("nothing of these came", Snapshot.of(line),
            "roots 1; 1 state 3 parent -1 children 0 depth 0 letters 1 unread 1 people 1 latest 0 tree 1");
    }

    private static void promise3Delete() {
        Threadline line = new Threadline();
        line.letter(1, -1, -1, 0, 10, 0);
        line.letter(2, -1, 1, 0, 11, 1);
        line.letter(3, -1, 1, 0, 12, 2);
        CHECKS.equal("a parent of two is guessed", line.delete(1), 1);
        CHECKS.equal("it is missing and in the forest", line.state(1), 2);
        CHECKS.equal("a parent of one alone is not", line.delete(3), 1);
        CHECKS.equal("it is missing and not in the forest", line.state(1), 1);
        CHECKS.equal("the deleted leaf is not known", line.state(3), 0);
        CHECKS.equal("the last one", line.delete(2), 0);
        CHECKS.equal("nothing is known then", line.state(1), 0);
        for (int bad : Checks.NO_IDS) {
            CHECKS.illegalArgument("delete " + bad, () -> line.delete(bad));
        }
        CHECKS.illegalState("deleted already", () -> line.delete(2));
        line.letter(4, -1, 5, 0, 0, 0);
        CHECKS.illegalState("only told", () -> line.delete(5));
    }

    private static void promise3Forgets() {
        Threadline line = new Threadline();
        line.letter(1, -1, -1, 0, 10, 0);
        line.letter(2, -1, 1, 0, 11, 1);
        line.split(2);
        line.read(2);
        CHECKS.equal("split and read", line.unread(2), 0);
        line.delete(2);
        line.letter(2, -1, 1, 0, 11, 1);
        CHECKS.equal("the split is forgotten", line.parent(2), 1);
        CHECKS.equal("the reading is forgotten", line.unread(2), 1);
        CHECKS.equal("nothing to release", line.release(2), false);
        line.letter(3, -1, -1, 1, 5, 0);
        line.join(2, 3);
        line.delete(2);
        line.letter(2, -1, 1, 0, 11, 1);
        CHECKS.equal("the join is forgotten", line.parent(2), 1);
    }

    private static void promise4Split() {
        Threadline line = new Threadline();
        line.letter(1, -1, -1, 0, 10, 0);
        line.letter(2, -1, 1, 0, 11, 1);
        line.letter(3, -1, -1, 10, 12, 1);
        CHECKS.equal("split from the told parent", line.split(2), 1);
        CHECKS.equal("no parent then", line.parent(2), -1);
        CHECKS.equal("split again", line.split(2), -1);
        CHECKS.equal("roots then", Snapshot.roots(line), " 1 2");
        CHECKS.equal("a reply's parent by its subject", line.split(3), 2);
        CHECKS.equal("a split reply is not joined by its subject", line.parent(3), -1);
        CHECKS.equal("a root", line.split(1), -1);
        line.join(2, 3);
        CHECKS.equal("split from the letter it was joined to", line.split(2), 3);
        CHECKS.equal("the join is forgotten", line.parent(2), -1);
        CHECKS.equal("release after join and split", line.release(2), true);
        CHECKS.equal("then as told", line.parent(2), 1);
        for (int bad : Checks.NO_IDS) {
            CHECKS.illegalArgument("split " + bad, () -> line.split(bad));
        }
        CHECKS.illegalState("not known", () -> line.split(9));
        line.letter(4, -1, 9, 0, 11, 1);
        line.letter(5, -1, 9, 0, 11, 1);
        CHECKS.illegalState("missing and in the forest", () -> line.split(9));
        CHECKS.equal("split from a missing one", line.split(4), 9);
        CHECKS.equal("which is the parent of one alone then", line.parent(5), -1);
        CHECKS.equal("a letter split still tells its parent", line.state(9), 1);
        line.split(5);
        CHECKS.equal("so do both", line.state(9), 1);
    }

    private static void promise5Join() {
        Threadline line = new Threadline();
        line.letter(1, -1, -1, 0, 10, 0);
        line.letter(2, -1, 1, 0, 11, 1);
        line.letter(3, -1, -1, 1, 12, 1);
        CHECKS.equal("join to a root", line.join(2, 3), 3);
        CHECKS.equal("its parent", line.parent(2), 3);
        CHECKS.equal("join of a root", line.join(1, 2), 2);
        CHECKS.equal("one tree then", Snapshot.tree(line, 3), " 3 2 1");
        CHECKS.equal("join anew", line.join(1, 3), 3);
        CHECKS.equal("an earlier join is forgotten", Snapshot.tree(line, 3), " 3 1 2");
        line.split(2);
        CHECKS.equal("a split is forgotten", line.join(2, 1), 1);
        CHECKS.equal("join to its own parent", line.join(2, 1), 1);
        CHECKS.equal("was joined by hand all the same", line.release(2), true);
        line.letter(4, -1, -1, 10, 12, 1);
        CHECKS.equal("a reply is joined elsewhere by hand", line.join(4, 3), 3);
    }

    private static void promise5Refusals() {
        Threadline line = new Threadline();
        line.letter(1, -1, -1, 0, 10, 0);
        line.letter(2, -1, 1, 0, 11, 1);
        line.letter(3, -1, 2, 0, 12, 1);
        line.letter(4, -1, -1, 10, 10, 1);
        line.letter(5, -1, 9, 5, 10, 1);
        line.letter(6, -1, 9, 5, 10, 1);
        for (int bad : Checks.NO_IDS) {
            CHECKS.illegalArgument("join " + bad, () -> line.join(bad, 1));
            CHECKS.illegalArgument("join to " + bad, () -> line.join(1, bad));
            CHECKS.illegalArgument("join of none to " + bad, () -> line.join(20, bad));
        }
        CHECKS.illegalArgument("the same", () -> line.join(2, 2));
        CHECKS.illegalArgument("the same, without a letter", () -> line.join(20, 20));
        CHECKS.illegalState("no letter", () -> line.join(20, 2));
        CHECKS.illegalState("no other letter", () -> line.join(2, 20));
        CHECKS.illegalState("a missing id in the forest", () -> line.join(2, 9));
        CHECKS.illegalState("of a missing id in the forest", () -> line.join(9, 2));
        CHECKS.illegalState("to its child", () -> line.join(1, 2));
        CHECKS.illegalState("to its grandchild", () -> line.join(1, 3));
        CHECKS.illegalState("to its child by subject", () -> line.join(1, 4));
        CHECKS.equal("to its grandparent", line.join(3, 1), 1);
    }

    private static void promise5JoinedToADeletedLetter() {
        Threadline line = new Threadline();
        line.letter(1, -1, -1, 0, 10, 0);
        line.letter(2, -1, -1, 1, 11, 0);
        line.letter(3, -1, -1, 2, 12, 0);
        line.join(2, 1);
        line.join(3, 1);
        CHECKS.equal("the letter joined to goes", line.delete(1), 1);
        CHECKS.equal("it is missing and in the forest", line.state(1), 2);
        CHECKS.equal("parent of the joined one", line.parent(3), 1);
        line.release(2);
        CHECKS.equal("parent of one alone", line.state(1), 1);
        CHECKS.equal("so it has no parent", line.parent(3), -1);
        CHECKS.equal("it comes back", line.letter(1, -1, -1, 0, 10, 0), 2);
        CHECKS.equal("the join held", line.parent(3), 1);
        line.delete(1);
        line.split(3);
        CHECKS.equal("nobody is joined to it", line.state(1), 0);
    }

    private static void promise6Release() {
        Threadline line = new Threadline();
        line.letter(1, -1, -1, 0, 10, 0);
        line.letter(2, -1, 1, 0, 11, 1);
        line.letter(3, -1, -1, 10, 11, 1);
        CHECKS.equal("nothing was done", line.release(2), false);
        line.split(2);
        CHECKS.equal("split", line.release(2), true);
        CHECKS.equal("parent as told", line.parent(2), 1);
        CHECKS.equal("released already", line.release(2), false);
        line.join(2, 3);
        CHECKS.equal("joined", line.release(2), true);
        CHECKS.equal("parent as told", line.parent(2), 1);
        line.split(3);
        line.release(3);
        CHECKS.equal("joined by its subject again", line.parent(3), 1);
        line.join(3, 2);
        line.letter(0, -1, -1, 3, 11, 1);
        line.join(2, 0);
        CHECKS.equal("join to id 0", line.release(2), true);
        for (int bad : Checks.NO_IDS) {
            CHECKS.illegalArgument("release " + bad, () -> line.release(bad));
        }
        CHECKS.illegalState("no letter", () -> line.release(20));
        line.letter(4, -1, 20, 0, 0, 0);
        CHECKS.illegalState("a missing id", () -> line.release(20));
    }

    private static void promise7Read() {
        Threadline line = new Threadline();
        line.letter(1, -1, -1, 0, 10, 0);
        line.letter(2, -1, 1, 0, 11, 1);
        line.letter(3, -1, 2, 0, 12, 1);
        line.letter(4, -1, 1, 0, 12, 1);
        CHECKS.equal("a tree of two", line.read(2), 2);
        CHECKS.equal("again", line.read(2), 0);
        CHECKS.equal("the others are unread", line.unread(1), 2);
        line.letter(5, -1, 3, 0, 12, 1);
        CHECKS.equal("a new one is unread", line.unread(2), 1);
        CHECKS.equal("the whole tree", line.read(1), 3);
        CHECKS.equal("all are read", line.unread(1), 0);
        line.split(2);
        line.release(2);
        CHECKS.equal("hands do not make unread", line.unread(1), 0);
        for (int bad : Checks.NO_IDS) {
            CHECKS.illegalArgument("read " + bad, () -> line.read(bad));
        }
        CHECKS.outOfBounds("not known", () -> line.read(20));
        line.letter(6, -1, 20, 0, 0, 0);
        CHECKS.outOfBounds("missing and not in the forest", () -> line.read(20));
    }

    private static void promise7ReadOfAMissingId() {
        Threadline line = new Threadline();
        line.letter(1, -1, 9, 0, 10, 0);
        line.letter(2, -1, 9, 0, 11, 1);
        line.letter(3, -1, -1, 0, 11, 1);
        CHECKS.equal("letters of a missing id", line.read(9), 2);
        CHECKS.equal("not those of another tree", line.unread(3), 1);
    }

    private static void refusalsChangeNothing() {
        Threadline line = new Threadline();
        line.letter(1, -1, -1, 0, 10, 0);
        line.letter(2, 8, 9, 0, 11, 1);
        line.letter(3, 8, 9, 10, 12, 2);
        line.letter(4, -1, 1, 0, 13, 2);
        line.join(2, 4);
        line.split(3);
        line.read(2);
        String before = Snapshot.of(line);
        CHECKS.illegalState("letter again", () -> line.letter(2, -1, -1, 5, 0, 0));
        CHECKS.illegalArgument("letter", () -> line.letter(5, -1, -1, 20, 0, 0));
        CHECKS.illegalState("delete", () -> line.delete(9));
        CHECKS.illegalState("split", () -> line.split(9));
        CHECKS.illegalState("join", () -> line.join(1, 2));
        CHECKS.illegalState("join to a missing one", () -> line.join(2, 9));
        CHECKS.illegalArgument("join to itself", () -> line.join(2, 2));
        CHECKS.illegalState("release", () -> line.release(9));
        CHECKS.outOfBounds("read", () -> line.read(9));
        CHECKS.equal("all refused", Snapshot.of(line), before);
        CHECKS.equal("the join still holds", line.release(2), true);
        CHECKS.equal("the split still holds", line.release(3), true);
    }
}
