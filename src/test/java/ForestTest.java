/** Promises 8 to 14: what the forest answers. */
final class ForestTest {
    private static final Checks CHECKS = new Checks("ForestTest");

    private static final int[] NO_PLACES = {-1, -2, 30, 1000, Integer.MIN_VALUE, Integer.MAX_VALUE};

    public static void main(String[] args) {
        promise8State();
        promise9Parent();
        promise10Children();
        promise11Roots();
        promise12Root();
        promise12RootsByEarliestDays();
        promise13InTree();
        promise13OrderOfChildren();
        promise14Depth();
        promise14LongestChain();
        refusals();
        CHECKS.finish();
    }

    /** 1 answers 2 and 3; 4 and 5 tell the missing 8; 6 tells the missing 7 alone; 20 is not known. */
    private static Threadline someForest() {
        Threadline line = new Threadline();
        line.letter(1, -1, -1, 0, 50, 0);
        line.letter(3, -1, 1, 0, 51, 1);
        line.letter(2, -1, 3, 0, 52, 2);
        line.letter(4, -1, 8, 1, 41, 3);
        line.letter(5, -1, 8, 1, 40, 4);
        line.letter(6, -1, 7, 2, 60, 5);
        return line;
    }

    private static void promise8State() {
        Threadline line = someForest();
        CHECKS.equal("not known", line.state(20), 0);
        CHECKS.equal("missing, parent of one alone", line.state(7), 1);
        CHECKS.equal("missing, parent of two", line.state(8), 2);
        CHECKS.equal("a letter", line.state(2), 3);
        line.letter(9, 20, 21, 0, 0, 0);
        CHECKS.equal("told as grandparent", line.state(20), 1);
        CHECKS.equal("told as parent", line.state(21), 1);
        line.letter(10, 20, 22, 0, 0, 0);
        CHECKS.equal("both are passed over: grandparent", line.state(20), 2);
        CHECKS.equal("both are passed over: first parent", line.state(21), 1);
        CHECKS.equal("both are passed over: second parent", line.state(22), 1);
        line.letter(0, -1, 29, 0, 0, 0);
        CHECKS.equal("lowest id", line.state(0), 3);
        CHECKS.equal("highest id", line.state(29), 1);
        for (int bad : Checks.NO_IDS) {
            CHECKS.illegalArgument("state " + bad, () -> line.state(bad));
        }
    }

    private static void promise9Parent() {
        Threadline line = someForest();
        CHECKS.equal("a root", line.parent(1), -1);
        CHECKS.equal("a child", line.parent(3), 1);
        CHECKS.equal("a grandchild", line.parent(2), 3);
        CHECKS.equal("a missing parent", line.parent(4), 8);
        CHECKS.equal("a missing root", line.parent(8), -1);
        CHECKS.equal("a missing parent of one alone", line.parent(6), -1);
    }

    private static void promise10Children() {
        Threadline line = someForest();
        CHECKS.equal("of a root", line.children(1), 1);
        CHECKS.equal("of a leaf", line.children(2), 0);
        CHECKS.equal("of a missing id", line.children(8), 2);
        line.letter(9, -1, 1, 0, 0, 0);
        line.letter(10, -1, -1, 10, 50, 0);
        CHECKS.equal("with one told and one by subject", line.children(1), 3);
        CHECKS.equal("grandchildren do not count", line.children(3), 1);
    }

    private static void promise11Roots() {
        Threadline line = someForest();
        CHECKS.equal("two letters and a missing id", line.roots(), 3);
        line.letter(8, -1, 2, 0, 0, 0);
        CHECKS.equal("the missing one comes", line.roots(), 2);
        line.split(8);
        CHECKS.equal("and is split", line.roots(), 3);
        line.delete(6);
        CHECKS.equal("a root goes", line.roots(), 2);
        Threadline full = new Threadline();
        for (int id = 0; id < 30; id++) {
            CHECKS.equal("roots of " + id, full.letter(id, -1, -1, 0, 0, 0), id + 1);
        }
        CHECKS.equal("all are roots", full.roots(), 30);
        CHECKS.equal("the last root", full.root(29), 29);
        CHECKS.outOfBounds("no root behind it", () -> full.root(30));
    }

    private static void promise12Root() {
        Threadline line = someForest();
        CHECKS.equal("earliest tree", line.root(0), 8);
        CHECKS.equal("second tree", line.root(1), 1);
        CHECKS.equal("last tree", line.root(2), 6);
        CHECKS.outOfBounds("behind the last", () -> line.root(3));
        for (int bad : NO_PLACES) {
            CHECKS.outOfBounds("root " + bad, () -> line.root(bad));
        }
    }

    private static void promise12RootsByEarliestDays() {
        Threadline line = new Threadline();
        line.letter(5, -1, -1, 0, 30, 0);
        line.letter(4, -1, -1, 1, 20, 0);
        line.letter(3, -1, -1, 2, 20, 0);
        CHECKS.equal("by days, then ids", Snapshot.roots(line), " 3 4 5");
        line.letter(6, -1, 5, 3, 25, 0);
        line.letter(7, -1, 6, 3, 10, 0);
        CHECKS.equal("a grandchild's day counts", Snapshot.roots(line), " 5 3 4");
        line.letter(8, -1, 2, 4, 20, 0);
        line.letter(9, -1, 2, 4, 400, 0);
        CHECKS.equal("a missing one has its letters' day", Snapshot.roots(line), " 5 2 3 4");
        line.delete(7);
        CHECKS.equal("the early one goes", Snapshot.roots(line), " 2 3 4 5");
    }

    private static void promise13InTree() {
        Threadline line = someForest();
        CHECKS.equal("of a root", Snapshot.tree(line, 1), " 1 3 2");
        CHECKS.equal("of a child", Snapshot.tree(line, 3), " 3 2");
        CHECKS.equal("of a leaf", Snapshot.tree(line, 2), " 2");
        CHECKS.equal("of a missing id", Snapshot.tree(line, 8), " 8 5 4");
        CHECKS.outOfBounds("place behind the tree", () -> line.inTree(3, 2));
        for (int bad : NO_PLACES) {
            CHECKS.outOfBounds("place " + bad, () -> line.inTree(1, bad));
            CHECKS.illegalArgument("id before place " + bad, () -> line.inTree(30, bad));
        }
    }

    private static void promise13OrderOfChildren() {
        Threadline line = new Threadline();
        line.letter(10, -1, -1, 0, 100, 0);
        line.letter(5, -1, 10, 0, 7, 0);
        line.letter(4, -1, 10, 0, 7, 0);
        line.letter(1, -1, 10, 0, 8, 0);
        line.letter(9, -1, 10, 0, 6, 0);
        line.letter(2, -1, 1, 0, 0, 0);
        line.letter(3, -1, 9, 0, 500, 0);
        line.letter(6, -1, 9, 0, 400, 0);
        CHECKS.equal("own days count, not those below", Snapshot.tree(line, 10), " 10 9 6 3 4 5 1 2");
        CHECKS.equal("a tree within", Snapshot.tree(line, 9), " 9 6 3");
    }

    private static void promise14Depth() {
        Threadline line = someForest();
        CHECKS.equal("a root", line.depth(1), 0);
        CHECKS.equal("a child", line.depth(3), 1);
        CHECKS.equal("a grandchild", line.depth(2), 2);
        CHECKS.equal("a missing root", line.depth(8), 0);
        CHECKS.equal("below a missing root", line.depth(5), 1);
        CHECKS.equal("no missing parent in the forest", line.depth(6), 0);
    }

    private static void promise14LongestChain() {
        Threadline line = new Threadline();
        for (int id = 0; id < 30; id++) {
            line.letter(id, -1, id - 1, 0, 999 - id, id % 10);
        }
        CHECKS.equal("one root", line.roots(), 1);
        CHECKS.equal("deepest", line.depth(29), 29);
        CHECKS.equal("last in the tree", line.inTree(0, 29), 29);
        CHECKS.outOfBounds("behind it", () -> line.inTree(0, 30));
        CHECKS.equal("all letters", line.letters(0), 30);
        CHECKS.equal("all people", line.people(0), 1023);
        CHECKS.illegalState("join to the deepest", () -> line.join(0, 29));
    }

    private static void refusals() {
        Threadline line = someForest();
        for (int bad : Checks.NO_IDS) {
            CHECKS.illegalArgument("parent " + bad, () -> line.parent(bad));
            CHECKS.illegalArgument("children " + bad, () -> line.children(bad));
            CHECKS.illegalArgument("inTree " + bad, () -> line.inTree(bad, 0));
            CHECKS.illegalArgument("depth " + bad, () -> line.depth(bad));
        }
        for (int outside : new int[] {7, 20, 0, 29}) {
            CHECKS.outOfBounds("parent " + outside, () -> line.parent(outside));
            CHECKS.outOfBounds("children " + outside, () -> line.children(outside));
            CHECKS.outOfBounds("inTree " + outside, () -> line.inTree(outside, 0));
            CHECKS.outOfBounds("depth " + outside, () -> line.depth(outside));
        }
    }
}
