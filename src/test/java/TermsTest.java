import java.util.ArrayList;
import java.util.List;

/** The rules under 'Terms': told parents, links, missing ids, subjects, and that the order of coming is free. */
final class TermsTest {
    private static final Checks CHECKS = new Checks("TermsTest");

    public static void main(String[] args) {
        guessedParentByTheLowestTeller();
        guessedParentInSpiteOfHands();
        guessedParentThatIsTheIdItself();
        loopsOfTwo();
        loopsOfThree();
        loopsThroughMissingIds();
        chainsOfMissingIds();
        missingWithALinkAndTwoChildren();
        missingWithOneChildAlone();
        subjectWindow();
        subjectBestLetter();
        subjectOnlyAmongRoots();
        subjectOfSplitLetters();
        subjectAfterAnEmptyJoin();
        subjectAfterAMissingParentOfOneAlone();
        laterLettersHangOthersAnew();
        orderOfComingIsFree();
        CHECKS.finish();
    }

    private static void guessedParentByTheLowestTeller() {
        Threadline line = new Threadline();
        line.letter(1, -1, -1, 0, 0, 0);
        line.letter(2, -1, -1, 1, 0, 0);
        line.letter(8, 2, 20, 5, 0, 0);
        CHECKS.equal("told by 8 alone", line.parent(8), 2);
        line.letter(7, 1, 20, 5, 0, 0);
        CHECKS.equal("the lower id tells", line.parent(8), 1);
        line.letter(6, -1, 20, 5, 0, 0);
        CHECKS.equal("one without a grandparent tells nothing", line.parent(6), 1);
        line.letter(5, 2, 21, 5, 0, 0);
        CHECKS.equal("one of another parent tells nothing", line.parent(6), 1);
        line.delete(7);
        CHECKS.equal("told by 8 again", line.parent(6), 2);
        line.letter(20, -1, -1, 5, 0, 0);
        CHECKS.equal("a letter comes and tells none", line.parent(20), -1);
    }

    private static void guessedParentInSpiteOfHands() {
        Threadline line = new Threadline();
        line.letter(1, -1, -1, 0, 0, 0);
        line.letter(2, -1, -1, 1, 0, 0);
        line.letter(7, 1, 20, 5, 0, 0);
        line.letter(8, 2, 20, 5, 0, 0);
        line.split(7);
        CHECKS.equal("a split letter tells on", line.parent(8), 1);
        line.join(7, 2);
        CHECKS.equal("a joined letter tells on", line.parent(8), 1);
        line.delete(7);
        CHECKS.equal("a deleted one does not", line.parent(8), 2);
    }

    private static void guessedParentThatIsTheIdItself() {
        Threadline line = new Threadline();
        line.letter(2, 20, 20, 0, 0, 0);
        line.letter(3, 1, 20, 0, 0, 0);
        CHECKS.equal("20 told as its own parent has no link", line.state(20), 2);
        CHECKS.equal("and both below it", Snapshot.tree(line, 20), " 20 2 3");
        CHECKS.equal("1 is told only", line.state(1), 1);
        line.letter(5, 5, 21, 0, 0, 0);
        CHECKS.equal("one telling itself as grandparent", line.parent(5), -1);
    }

    private static void loopsOfTwo() {
        Threadline line = new Threadline();
        line.letter(2, -1, 1, 0, 0, 0);
        line.letter(1, -1, 2, 0, 0, 0);
        CHECKS.equal("the lower id is linked first", line.parent(1), 2);
        CHECKS.equal("the higher one then is not", line.parent(2), -1);
        line.split(1);
        CHECKS.equal("a split makes way", line.parent(2), 1);
    }

    private static void loopsOfThree() {
        Threadline line = new Threadline();
        line.letter(5, -1, 9, 0, 0, 0);
        line.letter(9, -1, 7, 0, 0, 0);
        line.letter(7, -1, 5, 0, 0, 0);
        CHECKS.equal("5", line.parent(5), 9);
        CHECKS.equal("7", line.parent(7), 5);
        CHECKS.equal("9 would close the loop", line.parent(9), -1);
        line.letter(3, -1, -1, 0, 0, 0);
        line.join(9, 3);
        CHECKS.equal("9 by hand", Snapshot.tree(line, 3), " 3 9 5 7");
        CHECKS.illegalState("no loop by hand", () -> line.join(3, 7));
    }

    private static void loopsThroughMissingIds() {
        Threadline line = new Threadline();
        line.letter(5, 5, 3, 0, 0, 0);
        CHECKS.equal("3 is linked to 5, so 5 is not linked", line.parent(5), -1);
        line.letter(6, -1, 3, 0, 1, 0);
        CHECKS.equal("3 is passed over", line.parent(6), 5);
        Threadline high = new Threadline();
        high.letter(5, 5, 9, 0, 0, 0);
        high.letter(6, -1, 9, 0, 1, 0);
        CHECKS.equal("5 is linked to 9, so 9 is not linked", high.parent(5), 9);
        CHECKS.equal("9 is in the forest", high.state(9), 2);
    }

    private static void chainsOfMissingIds() {
        Threadline line = new Threadline();
        line.letter(1, 11, 10, 0, 3, 0);
        line.letter(2, 12, 11, 1, 2, 0);
        line.letter(3, 13, 12, 2, 1, 0);
        CHECKS.equal("three below the last missing one", Snapshot.tree(line, 13), " 13 3 2 1");
        CHECKS.equal("in between is not in the forest", line.state(11), 1);
        line.letter(12, -1, -1, 5, 5, 0);
        CHECKS.equal("one in between comes", Snapshot.roots(line), " 12");
        CHECKS.equal("and 13 is told still", line.state(13), 1);
        CHECKS.equal("tree then", Snapshot.tree(line, 12), " 12 3 2 1");
    }

    private static void missingWithALinkAndTwoChildren() {
        Threadline line = new Threadline();
        line.letter(1, 11, 10, 0, 3, 0);
        line.letter(2, 11, 10, 1, 2, 0);
        CHECKS.equal("linked, not in the forest", line.state(10), 1);
        CHECKS.equal("the one to which it is linked", line.state(11), 2);
        CHECKS.equal("both hang there", line.children(11), 2);
    }

    private static void missingWithOneChildAlone() {
        Threadline line = new Threadline();
        line.letter(1, 11, 10, 0, 3, 0);
        line.letter(2, -1, 1, 0, 3, 0);
        CHECKS.equal("a child alone, whatever is below it", line.state(11), 1);
        CHECKS.equal("it has no parent", line.parent(1), -1);
        CHECKS.equal("it is a root", Snapshot.roots(line), " 1");
    }

    private static void subjectWindow() {
        Threadline line = new Threadline();
        line.letter(1, -1, -1, 4, 100, 0);
        line.letter(2, -1, -1, 14, 100, 0);
        line.letter(3, -1, -1, 14, 114, 0);
        line.letter(4, -1, -1, 14, 115, 0);
        line.letter(5, -1, -1, 14, 99, 0);
        line.letter(6, -1, -1, 15, 101, 0);
        line.letter(7, -1, -1, 4, 101, 0);
        CHECKS.equal("the same day", line.parent(2), 1);
        CHECKS.equal("14 days", line.parent(3), 7);
        CHECKS.equal("15 days, 14 from the next", line.parent(4), 7);
        CHECKS.equal("a day before", line.parent(5), -1);
        CHECKS.equal("another subject", line.parent(6), -1);
        CHECKS.equal("no reply", line.parent(7), -1);
        line.delete(7);
        CHECKS.equal("14 days", line.parent(3), 1);
        CHECKS.equal("15 days", line.parent(4), -1);
    }

    private static void subjectBestLetter() {
        Threadline line = new Threadline();
        line.letter(9, -1, -1, 14, 110, 0);
        line.letter(5, -1, -1, 4, 104, 0);
        line.letter(6, -1, -1, 4, 105, 0);
        line.letter(7, -1, -1, 4, 105, 0);
        line.letter(8, -1, -1, 4, 111, 0);
        CHECKS.equal("latest day, then lowest id", line.parent(9), 6);
        line.delete(6);
        CHECKS.equal("the next id", line.parent(9), 7);
        line.delete(7);
        CHECKS.equal("the next day", line.parent(9), 5);
    }

    private static void subjectOnlyAmongRoots() {
        Threadline line = new Threadline();
        line.letter(1, -1, -1, 4, 100, 0);
        line.letter(2, -1, 1, 4, 105, 0);
        line.letter(3, -1, -1, 14, 106, 0);
        line.letter(4, -1, -1, 14, 107, 0);
        CHECKS.equal("2 has a parent, so it is none for 3", line.parent(3), 1);
        CHECKS.equal("3 is a reply, so it is none for 4", line.parent(4), 1);
        line.letter(5, -1, 3, 14, 107, 0);
        CHECKS.equal("a told parent goes first", line.parent(5), 3);
        line.letter(6, -1, 20, 14, 107, 0);
        line.letter(7, -1, 20, 14, 107, 0);
        CHECKS.equal("so does a missing one in the forest", line.parent(6), 20);
    }

    private static void subjectOfSplitLetters() {
        Threadline line = new Threadline();
        line.letter(1, -1, -1, 4, 100, 0);
        line.letter(2, -1, 1, 4, 105, 0);
        line.letter(3, -1, -1, 14, 106, 0);
        line.split(2);
        CHECKS.equal("a split letter may get a reply", line.parent(3), 2);
        line.split(3);
        CHECKS.equal("a split reply gets no parent", line.parent(3), -1);
    }

    private static void subjectAfterAnEmptyJoin() {
        Threadline line = new Threadline();
        line.letter(1, -1, -1, 4, 100, 0);
        line.letter(2, -1, -1, 5, 100, 0);
        line.letter(3, -1, -1, 14, 106, 0);
        line.join(3, 2);
        line.delete(2);
        CHECKS.equal("joined to a missing one alone, it is a reply", line.parent(3), 1);
        CHECKS.equal("and the missing one is known", line.state(2), 1);
    }

    private static void subjectAfterAMissingParentOfOneAlone() {
        Threadline line = new Threadline();
        line.letter(1, -1, -1, 4, 100, 0);
        line.letter(3, 21, 20, 14, 106, 0);
        CHECKS.equal("a reply below a missing one alone", line.parent(3), 1);
        line.letter(4, -1, 21, 5, 106, 0);
        CHECKS.equal("the missing one gets two", line.parent(3), 21);
        line.delete(4);
        line.delete(1);
        line.letter(2, -1, 22, 4, 106, 0);
        CHECKS.equal("a letter below a missing one alone gets a reply", line.parent(3), 2);
    }

    private static void laterLettersHangOthersAnew() {
        Threadline line = new Threadline();
        line.letter(3, 1, 2, 0, 3, 0);
        line.letter(4, -1, 1, 0, 4, 0);
        CHECKS.equal("2 is passed over", Snapshot.tree(line, 1), " 1 3 4");
        line.letter(2, -1, -1, 0, 2, 0);
        CHECKS.equal("2 comes and tells no parent", line.parent(3), 2);
        CHECKS.equal("1 is the parent of 4 alone", line.parent(4), -1);
        line.letter(1, 3, 4, 0, 1, 0);
        CHECKS.equal("1 is linked to 4 first", line.parent(1), 4);
        CHECKS.equal("4 would close a loop", line.parent(4), -1);
    }

    private static void orderOfComingIsFree() {
        int[][] mails = {
            {3, 1, 2, 10, 30, 0}, {2, 5, 1, 0, 20, 1}, {7, -1, -1, 10, 33, 2},
            {5, 3, 7, 1, 12, 3}, {6, -1, 5, 11, 14, 4},
        };
        String want = null;
        for (int turn = 0; turn < 120; turn++) {
            Threadline line = new Threadline();
            for (int mail : permutation(turn)) {
                int[] told = mails[mail];
                line.letter(told[0], told[1], told[2], told[3], told[4], told[5]);
            }
            if (want == null) {
                want = Snapshot.of(line);
            }
            CHECKS.equal("order " + turn, Snapshot.of(line), want);
        }
    }

    private static int[] permutation(int number) {
        List<Integer> rest = new ArrayList<>(List.of(0, 1, 2, 3, 4));
        int[] all = new int[5];
        int left = number;
        for (int at = 0; at < 5; at++) {
            all[at] = rest.remove(left % rest.size());
            left /= 5 - at;
        }
        return all;
    }
}
