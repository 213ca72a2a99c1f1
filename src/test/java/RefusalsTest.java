import java.util.function.Supplier;

/** Each call that is refused: with what, which goes first where several apply, and that nothing changes behind it. */
final class RefusalsTest {
    private static final Checks CHECKS = new Checks("RefusalsTest");

    /** Beside the ids, and numbers that would be ids if they were cut to a byte or a short. */
    private static final int[] NO_IDS = {-1, -2, 30, 31, 256, 65536, Integer.MIN_VALUE, Integer.MAX_VALUE};
    private static final int[] NO_TOLD_IDS = {-2, 30, 31, 256, 65536, Integer.MIN_VALUE, Integer.MAX_VALUE};
    private static final int[] NO_SUBJECTS = {-1, -10, 20, 21, 256, Integer.MIN_VALUE, Integer.MAX_VALUE};
    private static final int[] NO_DAYS = {-1, -2, 1000, 1001, 65536, Integer.MIN_VALUE, Integer.MAX_VALUE};
    private static final int[] NO_PEOPLE = {-1, -2, 10, 11, 32, 256, Integer.MIN_VALUE, Integer.MAX_VALUE};
    private static final int[] NO_PLACES = {-1, -2, 30, 31, 256, 65536, Integer.MIN_VALUE, Integer.MAX_VALUE};

    /** A call that takes one id, and answers nothing that counts here. */
    private interface OfOneId {
        void call(Threadline line, int id);
    }

    private static final String[] OF_A_LETTER_NAMES = {"delete", "split", "release"};
    private static final OfOneId[] OF_A_LETTER = {Threadline::delete, Threadline::split, Threadline::release};
    private static final String[] OF_THE_FOREST_NAMES = {
        "read", "parent", "children", "depth", "letters", "unread", "people", "latest", "inTree at 0",
    };
    private static final OfOneId[] OF_THE_FOREST = {
        Threadline::read, Threadline::parent, Threadline::children, Threadline::depth, Threadline::letters,
        Threadline::unread, Threadline::people, Threadline::latest, (line, id) -> line.inTree(id, 0),
    };

    public static void main(String[] args) {
        mixedIsAsTold();
        Supplier<Threadline> mixed = Setups::mixed;
        everyArgumentOutOfRange(new Refusals(CHECKS, "mixed", mixed));
        letterRefused(new Refusals(CHECKS, "mixed", mixed));
        deleteSplitReleaseRefused(new Refusals(CHECKS, "mixed", mixed));
        joinRefused(new Refusals(CHECKS, "mixed", mixed));
        notInTheForest(new Refusals(CHECKS, "mixed", mixed));
        placesThatDoNotExist(new Refusals(CHECKS, "mixed", mixed));
        refusedWithoutLetters(new Refusals(CHECKS, "empty", Setups::empty));
        refusedWithoutLetters(new Refusals(CHECKS, "emptied", Setups::emptied));
        everyArgumentOutOfRange(new Refusals(CHECKS, "empty", Setups::empty));
        refusedWithAllLetters(new Refusals(CHECKS, "all roots", Setups::fullRoots));
        refusedWithAllLetters(new Refusals(CHECKS, "chain", Setups::fullChain));
        joinRefusedInAChain(new Refusals(CHECKS, "chain", Setups::fullChain));
        CHECKS.finish();
    }

    private static void mixedIsAsTold() {
        Threadline line = Setups.mixed();
        CHECKS.equal("roots of the mixed one", Snapshot.roots(line), " 20 6 0 7 9 29");
        CHECKS.equal("tree of 20", Snapshot.tree(line, 20), " 20 5 4");
        CHECKS.equal("tree of 0", Snapshot.tree(line, 0), " 0 1 2 3 23");
        CHECKS.equal("tree of 7", Snapshot.tree(line, 7), " 7 8");
        for (int id : Setups.MIXED_LETTERS) {
            CHECKS.equal("state of the letter " + id, line.state(id), 3);
        }
        CHECKS.equal("state of 20", line.state(Setups.MIXED_GUESSED), 2);
        for (int id : Setups.MIXED_OUTSIDE) {
            CHECKS.equal("state of the missing " + id, line.state(id), 1);
        }
        for (int id : Setups.MIXED_UNKNOWN) {
            CHECKS.equal("state of the unknown " + id, line.state(id), 0);
        }
    }

    /** "Throws IllegalArgumentException if .. is out of range", of every call: the numbers beside the range, and far off. */
    private static void everyArgumentOutOfRange(Refusals refusals) {
        letterArgumentsOutOfRange(refusals);
        for (int bad : NO_IDS) {
            for (int call = 0; call < OF_A_LETTER.length; call++) {
                OfOneId it = OF_A_LETTER[call];
                refusals.illegalArgument(OF_A_LETTER_NAMES[call] + " " + bad, line -> it.call(line, bad));
            }
            for (int call = 0; call < OF_THE_FOREST.length; call++) {
                OfOneId it = OF_THE_FOREST[call];
                refusals.illegalArgument(OF_THE_FOREST_NAMES[call] + " " + bad, line -> it.call(line, bad));
            }
            refusals.illegalArgument("state " + bad, line -> line.state(bad));
            refusals.illegalArgument("join " + bad, line -> line.join(bad, 0));
            refusals.illegalArgument("join to " + bad, line -> line.join(0, bad));
            refusals.illegalArgument("join both " + bad, line -> line.join(bad, bad));
            refusals.illegalArgument("join of no letter to " + bad, line -> line.join(11, bad));
            refusals.illegalArgument("join to no letter of " + bad, line -> line.join(bad, 11));
            for (int place : NO_PLACES) {
                refusals.illegalArgument("inTree " + bad + " at " + place, line -> line.inTree(bad, place));
            }
        }
    }

    private static void letterArgumentsOutOfRange(Refusals refusals) {
        for (int bad : NO_IDS) {
            refusals.illegalArgument("letter " + bad, line -> line.letter(bad, -1, -1, 0, 0, 0));
            refusals.illegalArgument("letter " + bad + " that tells", line -> line.letter(bad, 0, 1, 0, 0, 0));
        }
        for (int bad : NO_TOLD_IDS) {
            refusals.illegalArgument("parent " + bad, line -> line.letter(11, -1, bad, 0, 0, 0));
            refusals.illegalArgument("parent " + bad + " of 0", line -> line.letter(11, 0, bad, 0, 0, 0));
            refusals.illegalArgument("grandparent " + bad, line -> line.letter(11, bad, 0, 0, 0, 0));
            refusals.illegalArgument("grandparent alone " + bad, line -> line.letter(11, bad, -1, 0, 0, 0));
        }
        for (int bad : NO_SUBJECTS) {
            refusals.illegalArgument("subject " + bad, line -> line.letter(11, -1, -1, bad, 0, 0));
        }
        for (int bad : NO_DAYS) {
            refusals.illegalArgument("day " + bad, line -> line.letter(11, -1, -1, 0, bad, 0));
        }
        for (int bad : NO_PEOPLE) {
            refusals.illegalArgument("person " + bad, line -> line.letter(11, -1, -1, 0, 0, bad));
        }
        for (int told = 0; told < Setups.IDS; told++) {
            int it = told;
            refusals.illegalArgument("grandparent " + it + " without parent", line -> line.letter(11, it, -1, 0, 0, 0));
        }
    }

    /** "Throws IllegalStateException if there is a letter with this id", and what goes before it. */
    private static void letterRefused(Refusals refusals) {
        for (int id : Setups.MIXED_LETTERS) {
            refusals.illegalState("letter again " + id, line -> line.letter(id, 18, 19, 3, 1, 2));
            refusals.illegalState("letter again, none told " + id, line -> line.letter(id, -1, -1, 13, 999, 9));
            refusals.illegalArgument("grandparent alone before state", line -> line.letter(id, 18, -1, 3, 1, 2));
            refusals.illegalArgument("grandparent before state", line -> line.letter(id, 30, 19, 3, 1, 2));
            refusals.illegalArgument("parent before state", line -> line.letter(id, 18, 30, 3, 1, 2));
            refusals.illegalArgument("subject before state", line -> line.letter(id, 18, 19, 20, 1, 2));
            refusals.illegalArgument("day before state", line -> line.letter(id, 18, 19, 3, 1000, 2));
            refusals.illegalArgument("person before state", line -> line.letter(id, 18, 19, 3, 1, 10));
        }
    }

    /** "Throws IllegalStateException if there is no letter with this id": not even where the id is in the forest. */
    private static void deleteSplitReleaseRefused(Refusals refusals) {
        for (int call = 0; call < OF_A_LETTER.length; call++) {
            OfOneId it = OF_A_LETTER[call];
            for (int id : Setups.MIXED_NOT_IN_FOREST) {
                refusals.illegalState(OF_A_LETTER_NAMES[call] + " " + id, line -> it.call(line, id));
            }
            refusals.illegalState(OF_A_LETTER_NAMES[call] + " 20", line -> it.call(line, Setups.MIXED_GUESSED));
        }
    }

    /** Promise 5, both sentences: out of range or the same, no letter with one of both, in the tree of this one. */
    private static void joinRefused(Refusals refusals) {
        for (int id = 0; id < Setups.IDS; id++) {
            int it = id;
            refusals.illegalArgument("join to itself " + it, line -> line.join(it, it));
        }
        for (int none : new int[] {20, 10, 21, 22, 24, 11, 28}) {
            for (int id : new int[] {0, 9, 29}) {
                refusals.illegalState("join of no letter " + none + " to " + id, line -> line.join(none, id));
                refusals.illegalState("join of " + id + " to no letter " + none, line -> line.join(id, none));
            }
            refusals.illegalState("join of two without letter " + none, line -> line.join(none, none == 11 ? 12 : 11));
        }
        refusals.illegalState("join to a child", line -> line.join(0, 1));
        refusals.illegalState("join of a child to its child", line -> line.join(1, 2));
        refusals.illegalState("join to a child's child", line -> line.join(0, 2));
        refusals.illegalState("join to a child by subject", line -> line.join(0, 3));
        refusals.illegalState("join to a child over a missing id", line -> line.join(0, 23));
        refusals.illegalState("join to a child by hand", line -> line.join(7, 8));
    }

    /** "IndexOutOfBoundsException is thrown for an id that is not in the forest": unknown, or missing and not in it. */
    private static void notInTheForest(Refusals refusals) {
        for (int call = 0; call < OF_THE_FOREST.length; call++) {
            OfOneId it = OF_THE_FOREST[call];
            for (int id : Setups.MIXED_NOT_IN_FOREST) {
                refusals.outOfBounds(OF_THE_FOREST_NAMES[call] + " " + id, line -> it.call(line, id));
            }
        }
    }

    /** "or a place that does not exist": before the first, behind the last, of each tree and of the roots. */
    private static void placesThatDoNotExist(Refusals refusals) {
        for (int place : NO_PLACES) {
            refusals.outOfBounds("root " + place, line -> line.root(place));
            for (int id : Setups.MIXED_LETTERS) {
                refusals.outOfBounds("inTree " + id + " at " + place, line -> line.inTree(id, place));
            }
            refusals.outOfBounds("inTree 20 at " + place, line -> line.inTree(20, place));
            refusals.outOfBounds("inTree 11 at " + place, line -> line.inTree(11, place));
            refusals.outOfBounds("inTree 21 at " + place, line -> line.inTree(21, place));
        }
        refusals.outOfBounds("root behind the last", line -> line.root(6));
        int[] ids = {0, 1, 2, 3, 23, 20, 4, 5, 6, 7, 8, 9, 29};
        int[] sizes = {5, 2, 1, 1, 1, 3, 1, 1, 1, 2, 1, 1, 1};
        for (int row = 0; row < ids.length; row++) {
            int id = ids[row];
            int size = sizes[row];
            refusals.outOfBounds("inTree " + id + " behind its last", line -> line.inTree(id, size));
        }
    }

    /** A joiner without letters refuses all that needs one, for every id. */
    private static void refusedWithoutLetters(Refusals refusals) {
        for (int id = 0; id < Setups.IDS; id++) {
            int it = id;
            for (int call = 0; call < OF_A_LETTER.length; call++) {
                OfOneId made = OF_A_LETTER[call];
                refusals.illegalState(OF_A_LETTER_NAMES[call] + " " + it, line -> made.call(line, it));
            }
            for (int call = 0; call < OF_THE_FOREST.length; call++) {
                OfOneId made = OF_THE_FOREST[call];
                refusals.outOfBounds(OF_THE_FOREST_NAMES[call] + " " + it, line -> made.call(line, it));
            }
            refusals.illegalState("join " + it, line -> line.join(it, 29 - it));
            refusals.illegalArgument("join to itself " + it, line -> line.join(it, it));
            refusals.outOfBounds("root " + it, line -> line.root(it));
        }
        for (int place : NO_PLACES) {
            refusals.outOfBounds("root " + place, line -> line.root(place));
            refusals.outOfBounds("inTree 0 at " + place, line -> line.inTree(0, place));
        }
    }

    /** With all 30 letters there is none that could still come. */
    private static void refusedWithAllLetters(Refusals refusals) {
        for (int id = 0; id < Setups.IDS; id++) {
            int it = id;
            refusals.illegalState("one more letter " + it, line -> line.letter(it, 5, 6, 13, 7, 3));
            refusals.illegalArgument("join to itself " + it, line -> line.join(it, it));
        }
        refusals.illegalArgument("letter 30", line -> line.letter(30, -1, -1, 0, 0, 0));
        refusals.illegalArgument("letter -1", line -> line.letter(-1, -1, -1, 0, 0, 0));
        refusals.outOfBounds("root 30", line -> line.root(30));
        refusals.outOfBounds("inTree 0 at 30", line -> line.inTree(0, 30));
        refusals.outOfBounds("inTree 29 at 1", line -> line.inTree(29, 1));
    }

    private static void joinRefusedInAChain(Refusals refusals) {
        refusals.illegalState("the first to the last", line -> line.join(0, 29));
        refusals.illegalState("the first to the second", line -> line.join(0, 1));
        refusals.illegalState("the last but one to the last", line -> line.join(28, 29));
    }
}
