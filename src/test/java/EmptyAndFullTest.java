/** A joiner without letters, one with all 30 in several shapes, and the last of the 512 calls. */
final class EmptyAndFullTest {
    private static final Checks CHECKS = new Checks("EmptyAndFullTest");
    private static final int IDS = 30;

    public static void main(String[] args) {
        withoutLetters();
        withoutLettersAgain();
        theFirstLetterAndTheLast();
        allAreRoots();
        allAreRootsOnFallingDays();
        allInOneChain();
        allInOneChainUpwards();
        allAnswerOne();
        allAnswerOneByItsSubject();
        allInARing();
        allInARingDownwards();
        allInPairs();
        allSplit();
        allJoinedToOne();
        allIdsKnownByTenLetters();
        mostMissingIdsInTheForest();
        longestChainOfMissingIds();
        oneGoesAndComesBack();
        orderOfComingOfAll();
        theLastOf512Calls();
        CHECKS.finish();
    }

    /** "Creates a joiner without letters." */
    private static void withoutLetters() {
        Threadline line = new Threadline();
        CHECKS.equal("roots", line.roots(), 0);
        CHECKS.equal("all of it", Snapshot.of(line), "roots");
        for (int id = 0; id < IDS; id++) {
            CHECKS.equal("state " + id, line.state(id), 0);
        }
        CHECKS.outOfBounds("no first root", () -> line.root(0));
        Threadline other = Setups.fullRoots();
        CHECKS.equal("another object with 30", other.roots(), 30);
        CHECKS.equal("this one without", line.roots(), 0);
    }

    private static void withoutLettersAgain() {
        Threadline line = Setups.emptied();
        CHECKS.equal("all of it", Snapshot.of(line), "roots");
        line.letter(8, -1, 0, 0, 3, 1);
        CHECKS.equal("nothing is left of what was there", Snapshot.of(line), "roots 8; 0 state 1"
            + "; 8 state 3 parent -1 children 0 depth 0 letters 1 unread 1 people 2 latest 3 tree 8");
        CHECKS.equal("nor of what was done by hand", line.release(8), false);
    }

    private static void theFirstLetterAndTheLast() {
        Threadline line = new Threadline();
        for (int id = 0; id < IDS; id++) {
            CHECKS.equal("comes " + id, line.letter(id, -1, -1, 0, 0, 0), id + 1);
        }
        for (int id = 0; id < IDS; id++) {
            CHECKS.equal("goes " + id, line.delete(id), 29 - id);
        }
        CHECKS.equal("roots at last", line.roots(), 0);
    }

    private static void allAreRoots() {
        Threadline line = Setups.fullRoots();
        CHECKS.equal("roots", line.roots(), 30);
        for (int id = 0; id < IDS; id++) {
            CHECKS.equal("on the same day by ids", line.root(id), id);
            CHECKS.equal("letters", line.letters(id), 1);
            CHECKS.equal("unread", line.unread(id), 1);
            CHECKS.equal("people", line.people(id), 1 << id % 10);
            CHECKS.equal("depth", line.depth(id), 0);
            CHECKS.equal("children", line.children(id), 0);
            CHECKS.equal("state", line.state(id), 3);
            CHECKS.equal("parent", line.parent(id), -1);
            CHECKS.equal("latest", line.latest(id), 500);
            CHECKS.equal("read", line.read(id), 1);
            CHECKS.equal("read again", line.read(id), 0);
        }
        CHECKS.outOfBounds("root 30", () -> line.root(30));
    }

    private static void allAreRootsOnFallingDays() {
        Threadline line = new Threadline();
        for (int id = 0; id < IDS; id++) {
            line.letter(id, -1, -1, 0, 999 - id, 0);
        }
        for (int place = 0; place < IDS; place++) {
            CHECKS.equal("by days", line.root(place), 29 - place);
        }
    }

    private static void allInOneChain() {
        Threadline line = Setups.fullChain();
        CHECKS.equal("roots", line.roots(), 1);
        for (int id = 0; id < IDS; id++) {
            CHECKS.equal("parent of " + id, line.parent(id), id - 1);
            CHECKS.equal("depth of " + id, line.depth(id), id);
            CHECKS.equal("children of " + id, line.children(id), id == 29 ? 0 : 1);
            CHECKS.equal("letters of " + id, line.letters(id), 30 - id);
            CHECKS.equal("unread of " + id, line.unread(id), 30 - id);
            CHECKS.equal("latest of " + id, line.latest(id), 999 - id);
            CHECKS.equal("place of " + id, line.inTree(0, id), id);
        }
        CHECKS.equal("people", line.people(0), 1023);
        CHECKS.equal("the first goes", line.delete(0), 1);
        CHECKS.equal("the root then", line.root(0), 1);
        CHECKS.equal("one in between goes", line.delete(15), 2);
        CHECKS.equal("depth then", line.depth(29), 13);
    }

    private static void allInOneChainUpwards() {
        Threadline line = Setups.fullChainUpwards();
        CHECKS.equal("roots", line.roots(), 1);
        for (int id = 0; id < IDS; id++) {
            CHECKS.equal("parent of " + id, line.parent(id), id == 29 ? -1 : id + 1);
            CHECKS.equal("depth of " + id, line.depth(id), 29 - id);
            CHECKS.equal("place of " + id, line.inTree(29, 29 - id), id);
        }
        CHECKS.illegalState("join of the root to the deepest", () -> line.join(29, 0));
        CHECKS.equal("read all", line.read(29), 30);
        CHECKS.equal("none is unread", line.unread(29), 0);
    }

    private static void allAnswerOne() {
        Threadline line = Setups.fullStar();
        CHECKS.equal("children", line.children(0), 29);
        CHECKS.equal("letters", line.letters(0), 30);
        for (int place = 0; place < IDS; place++) {
            CHECKS.equal("on the same day by ids", line.inTree(0, place), place);
        }
        CHECKS.equal("the one goes: it is missing and in the forest", line.delete(0), 1);
        CHECKS.equal("state", line.state(0), 2);
        CHECKS.equal("children of a missing id", line.children(0), 29);
        CHECKS.equal("letters of a missing id", line.letters(0), 29);
        CHECKS.equal("the last place", line.inTree(0, 29), 29);
    }

    private static void allAnswerOneByItsSubject() {
        Threadline line = new Threadline();
        for (int id = 0; id < IDS; id++) {
            line.letter(id, -1, -1, id == 29 ? 3 : 13, id == 29 ? 500 : 514 - id % 15, 0);
        }
        CHECKS.equal("roots", line.roots(), 1);
        CHECKS.equal("children", line.children(29), 29);
        CHECKS.equal("first on day 500, the lower id", line.inTree(29, 1), 14);
        CHECKS.equal("first on day 500, the higher id is of day 501", line.inTree(29, 2), 13);
        CHECKS.equal("last on day 514", line.inTree(29, 29), 15);
        CHECKS.equal("the one goes", line.delete(29), 29);
    }

    /** Each tells the next, and the last one the first: "below it by the links so far", by 29 links. */
    private static void allInARing() {
        Threadline line = new Threadline();
        for (int id = 0; id < IDS; id++) {
            line.letter(id, -1, (id + 1) % IDS, 0, 0, 0);
        }
        CHECKS.equal("roots", line.roots(), 1);
        CHECKS.equal("29 would close it", line.parent(29), -1);
        CHECKS.equal("deepest", line.depth(0), 29);
        line.split(10);
        CHECKS.equal("10 is split, so 29 is linked", line.parent(29), 0);
        CHECKS.equal("deepest then", line.depth(11), 29);
    }

    private static void allInARingDownwards() {
        Threadline line = new Threadline();
        for (int id = 0; id < IDS; id++) {
            line.letter(id, -1, (id + 29) % IDS, 0, 0, 0);
        }
        CHECKS.equal("roots", line.roots(), 1);
        CHECKS.equal("0 is linked to 29 first", line.parent(0), 29);
        CHECKS.equal("29 would close it", line.parent(29), -1);
        CHECKS.equal("deepest", line.depth(28), 29);
    }

    private static void allInPairs() {
        Threadline line = new Threadline();
        for (int id = 0; id < IDS; id++) {
            line.letter(id, -1, id ^ 1, 0, 0, 0);
        }
        CHECKS.equal("roots", line.roots(), 15);
        for (int place = 0; place < 15; place++) {
            CHECKS.equal("the higher of a pair", line.root(place), 2 * place + 1);
            CHECKS.equal("its child", line.inTree(2 * place + 1, 1), 2 * place);
        }
    }

    private static void allSplit() {
        Threadline line = Setups.fullChain();
        for (int id = 0; id < IDS; id++) {
            CHECKS.equal("parent before", line.split(id), id - 1);
        }
        CHECKS.equal("all are roots", line.roots(), 30);
        for (int id = 0; id < IDS; id++) {
            CHECKS.equal("something was done", line.release(id), true);
        }
        CHECKS.equal("one chain again", line.depth(29), 29);
    }

    private static void allJoinedToOne() {
        Threadline line = Setups.fullChain();
        for (int id = 1; id < IDS; id++) {
            CHECKS.equal("parent then", line.join(id, 0), 0);
        }
        CHECKS.equal("children", line.children(0), 29);
        CHECKS.equal("by rising days", line.inTree(0, 1), 29);
        CHECKS.equal("the one goes", line.delete(0), 1);
        CHECKS.equal("it is missing and in the forest", line.state(0), 2);
        for (int id = 1; id < IDS; id++) {
            CHECKS.equal("something was done", line.release(id), true);
        }
        CHECKS.equal("told by 1 alone then", line.state(0), 1);
    }

    private static void allIdsKnownByTenLetters() {
        Threadline line = new Threadline();
        for (int id = 0; id < 10; id++) {
            CHECKS.equal("roots", line.letter(id, 20 + id, 10 + id, id, 0, 0), id + 1);
        }
        for (int id = 10; id < IDS; id++) {
            CHECKS.equal("missing " + id, line.state(id), 1);
        }
        for (int id = 0; id < 10; id++) {
            CHECKS.equal("a letter goes", line.delete(id), 9 - id);
            CHECKS.equal("the parent that it told", line.state(10 + id), 0);
            CHECKS.equal("the grandparent that it told", line.state(20 + id), 0);
        }
    }

    private static void mostMissingIdsInTheForest() {
        Threadline line = new Threadline();
        for (int id = 0; id < 20; id++) {
            line.letter(id, -1, 20 + id / 2, 0, id / 4, 0);
        }
        CHECKS.equal("roots", line.roots(), 10);
        for (int place = 0; place < 10; place++) {
            CHECKS.equal("by days, then ids", line.root(place), 20 + place);
            CHECKS.equal("state", line.state(20 + place), 2);
            CHECKS.equal("letters", line.letters(20 + place), 2);
        }
        CHECKS.outOfBounds("behind the last", () -> line.root(10));
    }

    /** "if that is missing, and linked itself, the one to which that is linked, and so on" */
    private static void longestChainOfMissingIds() {
        Threadline line = new Threadline();
        for (int id = 0; id < 14; id++) {
            line.letter(id, 16 + id, 15 + id, 0, id, 0);
        }
        CHECKS.equal("missing in between", line.state(15), 1);
        CHECKS.equal("missing in between", line.state(28), 1);
        CHECKS.equal("the missing one without a link", line.state(29), 2);
        CHECKS.equal("its children", line.children(29), 14);
        CHECKS.equal("the parent of the first", line.parent(0), 29);
        line.letter(29, -1, -1, 0, 0, 0);
        CHECKS.equal("over 14 missing ids to a letter", line.parent(0), 29);
        line.letter(22, -1, -1, 0, 0, 0);
        CHECKS.equal("over seven to another", line.parent(0), 22);
        CHECKS.equal("the last of those", line.parent(6), 22);
        CHECKS.equal("itself told as parent", line.parent(7), 22);
        CHECKS.equal("behind it", line.parent(8), 29);
    }

    private static void oneGoesAndComesBack() {
        for (int id = 0; id < IDS; id++) {
            Threadline line = Setups.fullChain();
            String before = Snapshot.of(line);
            CHECKS.equal("goes " + id, line.delete(id), id == 0 || id == 29 ? 1 : 2);
            CHECKS.equal("comes back " + id, line.letter(id, -1, id - 1, 0, 999 - id, id % 10), 1);
            CHECKS.equal("as before " + id, Snapshot.of(line), before);
        }
    }

    /** "The forest depends only on the letters that are there, not on the order in which they came." */
    private static void orderOfComingOfAll() {
        String want = comingInSteps(1);
        for (int step : new int[] {29, 7, 11, 13, 17, 19, 23}) {
            CHECKS.equal("steps of " + step, comingInSteps(step), want);
        }
    }

    private static String comingInSteps(int step) {
        Threadline line = new Threadline();
        for (int turn = 0; turn < IDS; turn++) {
            int id = turn * step % IDS;
            int parent = id % 3 == 0 ? -1 : (id * 7 + 5) % IDS;
            int grandparent = id % 3 == 2 ? (id * 11 + 3) % IDS : -1;
            line.letter(id, grandparent, parent, id % 2 + 10 * (id % 3 % 2), id * 13 % 40, id % 10);
        }
        for (int id = 0; id < IDS; id += 4) {
            line.delete(id);
        }
        return Snapshot.of(line);
    }

    /** "An object is used for at most 512 calls after it has been made": the last of them answers as the first. */
    private static void theLastOf512Calls() {
        Threadline line = new Threadline();
        for (int round = 0; round < 170; round++) {
            CHECKS.equal("comes", line.letter(round % IDS, -1, -1, 0, 999, 9), 1);
            CHECKS.equal("split", line.split(round % IDS), -1);
            CHECKS.equal("goes", line.delete(round % IDS), 0);
        }
        CHECKS.equal("call 511", line.letter(29, -1, 0, 19, 999, 9), 1);
        CHECKS.equal("call 512", line.latest(29), 999);
    }
}
