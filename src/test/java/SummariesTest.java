/** Promises 15 to 18: summaries of the tree of an id. */
final class SummariesTest {
    private static final Checks CHECKS = new Checks("SummariesTest");

    public static void main(String[] args) {
        promise15Letters();
        promise16Unread();
        promise17People();
        promise18Latest();
        refusals();
        CHECKS.finish();
    }

    /** 1 with its children 2 and 3, 4 below 2; the missing 8 with 5 and 6; 9 tells the missing 7 alone. */
    private static Threadline someForest() {
        Threadline line = new Threadline();
        line.letter(1, -1, -1, 0, 50, 0);
        line.letter(2, -1, 1, 0, 70, 1);
        line.letter(3, -1, 1, 0, 60, 9);
        line.letter(4, -1, 2, 0, 40, 1);
        line.letter(5, -1, 8, 1, 0, 3);
        line.letter(6, -1, 8, 1, 0, 4);
        line.letter(9, -1, 7, 2, 999, 5);
        return line;
    }

    private static void promise15Letters() {
        Threadline line = someForest();
        CHECKS.equal("a root", line.letters(1), 4);
        CHECKS.equal("a child", line.letters(2), 2);
        CHECKS.equal("a leaf", line.letters(3), 1);
        CHECKS.equal("a missing id does not count", line.letters(8), 2);
        CHECKS.equal("alone", line.letters(9), 1);
        line.delete(4);
        CHECKS.equal("one goes", line.letters(1), 3);
    }

    private static void promise16Unread() {
        Threadline line = someForest();
        CHECKS.equal("all at first", line.unread(1), 4);
        line.read(2);
        CHECKS.equal("a tree is read", line.unread(2), 0);
        CHECKS.equal("the others are not", line.unread(1), 2);
        CHECKS.equal("a missing id", line.unread(8), 2);
        line.read(5);
        CHECKS.equal("one of its letters is read", line.unread(8), 1);
        line.letter(8, -1, -1, 1, 0, 0);
        CHECKS.equal("it comes itself", line.unread(8), 2);
    }

    private static void promise17People() {
        Threadline line = someForest();
        CHECKS.equal("a root", line.people(1), 1 | 1 << 1 | 1 << 9);
        CHECKS.equal("twice the same", line.people(2), 1 << 1);
        CHECKS.equal("a missing id has no writer", line.people(8), 1 << 3 | 1 << 4);
        line.delete(3);
        CHECKS.equal("the only letter of a person goes", line.people(1), 1 | 1 << 1);
    }

    private static void promise18Latest() {
        Threadline line = someForest();
        CHECKS.equal("a child's day", line.latest(1), 70);
        CHECKS.equal("its own day", line.latest(2), 70);
        CHECKS.equal("a leaf", line.latest(4), 40);
        CHECKS.equal("the lowest day", line.latest(8), 0);
        CHECKS.equal("the highest day", line.latest(9), 999);
        line.delete(2);
        CHECKS.equal("the latest goes", line.latest(1), 60);
    }

    private static void refusals() {
        Threadline line = someForest();
        for (int bad : Checks.NO_IDS) {
            CHECKS.illegalArgument("letters " + bad, () -> line.letters(bad));
            CHECKS.illegalArgument("unread " + bad, () -> line.unread(bad));
            CHECKS.illegalArgument("people " + bad, () -> line.people(bad));
            CHECKS.illegalArgument("latest " + bad, () -> line.latest(bad));
        }
        for (int outside : new int[] {7, 20, 0, 29}) {
            CHECKS.outOfBounds("letters " + outside, () -> line.letters(outside));
            CHECKS.outOfBounds("unread " + outside, () -> line.unread(outside));
            CHECKS.outOfBounds("people " + outside, () -> line.people(outside));
            CHECKS.outOfBounds("latest " + outside, () -> line.latest(outside));
        }
    }
}
