/** The sentences under 'Terms', one by one, each at its edges. */
final class TermsEdgesTest {
    private static final Checks CHECKS = new Checks("TermsEdgesTest");

    public static void main(String[] args) {
        unreadAtFirst();
        knownByItsLetterAlone();
        knownAsAParentAlone();
        knownAsAGrandparentAlone();
        knownByAJoinAlone();
        missingUntilItComes();
        splitHasNoToldParent();
        joinedHasTheOneItWasJoinedTo();
        anyOtherHasTheParentThatItTells();
        missingHasNoneWithoutATeller();
        missingHasTheGrandparentOfTheLowestTeller();
        tellersTouchedByHandTell();
        joinedOnesTellNothingOfIt();
        joinedToAMissingIdWithALink();
        notLinkedToItself();
        notLinkedToOneBelow();
        linkedToOneThatIsBelowNoMore();
        linksSoFar();
        missingLoops();
        parentOverMissingIds();
        missingOfNoneOneTwoThree();
        missingWithALinkIsNotInTheForest();
        missingOfOneAlone();
        countedBeforeSubjects();
        subjectOnTheFirstAndTheLastDays();
        subjectDays();
        subjectIsTheSame();
        subjectNoReply();
        subjectWithoutAParent();
        subjectOfTheLatestDayAndTheLowestId();
        subjectNotForASplitReply();
        subjectForAReplyWhoseLinkIsRefused();
        childrenByDaysThenIds();
        rootsByEarliestDaysThenIds();
        orderOfATree();
        argumentGoesBeforeBounds();
        handsAreForgotten();
        handsHold();
        loopsThroughHands();
        CHECKS.finish();
    }

    private static Threadline plain(int... ids) {
        Threadline line = new Threadline();
        for (int id : ids) {
            line.letter(id, -1, -1, id % 10, 500, 0);
        }
        return line;
    }

    /** "It is unread at first." Also where it comes into a tree that was read, or comes again. */
    private static void unreadAtFirst() {
        Threadline line = plain(1);
        CHECKS.equal("the first", line.unread(1), 1);
        line.read(1);
        line.letter(2, -1, 1, 0, 0, 0);
        CHECKS.equal("below one that was read", line.unread(1), 1);
        line.read(2);
        line.delete(2);
        line.letter(2, -1, 1, 0, 0, 0);
        CHECKS.equal("one that comes again", line.unread(2), 1);
        CHECKS.equal("the other stays read", line.unread(1), 1);
    }

    /** "An id is known if there is a letter with it" */
    private static void knownByItsLetterAlone() {
        Threadline line = plain(5);
        CHECKS.equal("itself", line.state(5), 3);
        CHECKS.equal("the one before", line.state(4), 0);
        CHECKS.equal("the one behind", line.state(6), 0);
        line.delete(5);
        CHECKS.equal("gone", line.state(5), 0);
        line.letter(7, 7, 7, 0, 0, 0);
        line.delete(7);
        CHECKS.equal("its own telling goes with it", line.state(7), 0);
    }

    /** "or some letter that is there tells it as its parent" */
    private static void knownAsAParentAlone() {
        Threadline line = new Threadline();
        line.letter(5, -1, 8, 0, 0, 0);
        CHECKS.equal("told by one", line.state(8), 1);
        line.letter(6, -1, 8, 0, 0, 0);
        line.delete(5);
        CHECKS.equal("told by the other", line.state(8), 1);
        line.delete(6);
        CHECKS.equal("told by none", line.state(8), 0);
        line.letter(5, -1, 8, 0, 0, 0);
        line.letter(9, -1, -1, 0, 0, 0);
        line.join(5, 9);
        CHECKS.equal("told by one that was joined elsewhere", line.state(8), 1);
        line.split(5);
        CHECKS.equal("told by one that was split", line.state(8), 1);
    }

    /** "or its grandparent" */
    private static void knownAsAGrandparentAlone() {
        Threadline line = plain(5);
        line.letter(6, 8, 5, 0, 0, 0);
        CHECKS.equal("told by one, though the parent is there", line.state(8), 1);
        CHECKS.equal("which is no link for it", line.parent(5), -1);
        line.split(6);
        CHECKS.equal("told by one that was split", line.state(8), 1);
        line.delete(6);
        CHECKS.equal("told by none", line.state(8), 0);
    }

    /** "or a letter was joined to it by hand" */
    private static void knownByAJoinAlone() {
        for (int way = 0; way < 4; way++) {
            Threadline line = plain(1, 2, 3);
            line.join(2, 1);
            line.delete(1);
            CHECKS.equal("the one joined to goes", line.state(1), 1);
            switch (way) {
                case 0: line.release(2); break;
                case 1: line.split(2); break;
                case 2: line.join(2, 3); break;
                default: line.delete(2); break;
            }
            CHECKS.equal("the join is forgotten, way " + way, line.state(1), 0);
        }
    }

    /** "it is missing if it is known, and there is no letter with it" */
    private static void missingUntilItComes() {
        Threadline line = new Threadline();
        line.letter(5, -1, 8, 0, 0, 0);
        CHECKS.equal("missing", line.state(8), 1);
        line.letter(8, -1, -1, 0, 0, 0);
        CHECKS.equal("comes", line.state(8), 3);
        line.delete(8);
        CHECKS.equal("goes", line.state(8), 1);
    }

    /** "A letter that was split by hand has none" */
    private static void splitHasNoToldParent() {
        Threadline line = plain(1, 2);
        line.letter(3, 2, 1, 0, 0, 0);
        line.split(3);
        CHECKS.equal("neither parent nor grandparent", line.parent(3), -1);
        line.split(2);
        CHECKS.equal("one that tells none", line.parent(2), -1);
        line.delete(1);
        line.letter(1, -1, -1, 0, 0, 0);
        CHECKS.equal("nor when its parent comes again", line.parent(3), -1);
    }

    /** "one that was joined by hand has the one to which it was joined" */
    private static void joinedHasTheOneItWasJoinedTo() {
        Threadline line = plain(0, 1, 2);
        line.letter(3, -1, 1, 0, 0, 0);
        line.join(3, 2);
        CHECKS.equal("not the one that it tells", line.parent(3), 2);
        line.join(3, 0);
        CHECKS.equal("id 0", line.parent(3), 0);
        line.join(3, 1);
        CHECKS.equal("the one that it tells", line.parent(3), 1);
        CHECKS.equal("which was by hand", line.release(3), true);
    }

    /** "any other one the parent that it tells, if any" */
    private static void anyOtherHasTheParentThatItTells() {
        Threadline line = plain(0, 1);
        line.letter(3, 1, 0, 0, 0, 0);
        line.letter(4, -1, -1, 2, 0, 0);
        CHECKS.equal("the parent, not the grandparent", line.parent(3), 0);
        CHECKS.equal("none told", line.parent(4), -1);
        line.split(3);
        line.release(3);
        CHECKS.equal("released", line.parent(3), 0);
    }

    /** "if there is no such letter, none" */
    private static void missingHasNoneWithoutATeller() {
        Threadline line = plain(1);
        line.letter(5, -1, 20, 5, 0, 0);
        line.letter(6, -1, 20, 6, 0, 0);
        line.letter(7, 1, 21, 7, 0, 0);
        line.letter(8, 20, 1, 8, 0, 0);
        CHECKS.equal("told without a grandparent, and as a grandparent itself", line.state(20), 2);
        CHECKS.equal("the parent of both", line.parent(6), 20);
        line.letter(29, 1, 20, 9, 0, 0);
        CHECKS.equal("the highest id tells one", line.parent(5), 1);
        CHECKS.equal("so it is linked", line.state(20), 1);
        line.delete(29);
        CHECKS.equal("none tells again", line.parent(5), 20);
    }

    /** "the grandparent told by the letter with the lowest id that tells this id as its parent and tells a grandparent" */
    private static void missingHasTheGrandparentOfTheLowestTeller() {
        Threadline line = plain(1, 2, 3);
        line.letter(29, 1, 20, 5, 0, 0);
        CHECKS.equal("told by 29", line.parent(29), 1);
        line.letter(28, 2, 20, 5, 0, 0);
        CHECKS.equal("told by 28", line.parent(29), 2);
        line.letter(0, 3, 20, 5, 0, 0);
        CHECKS.equal("told by 0, of 29", line.parent(29), 3);
        CHECKS.equal("told by 0, of 28", line.parent(28), 3);
        CHECKS.equal("told by 0, of 0", line.parent(0), 3);
        line.delete(0);
        line.letter(0, -1, 20, 5, 0, 0);
        CHECKS.equal("0 tells no grandparent now", line.parent(0), 2);
    }

    /** "(Whether that letter was split or joined by hand does not matter for this.)" */
    private static void tellersTouchedByHandTell() {
        Threadline line = plain(1, 2);
        line.letter(5, 1, 20, 5, 0, 0);
        line.letter(6, 2, 20, 6, 0, 0);
        line.split(5);
        CHECKS.equal("split", line.parent(6), 1);
        line.join(5, 6);
        CHECKS.equal("joined", line.parent(6), 1);
        line.join(5, 2);
        CHECKS.equal("joined elsewhere", line.parent(6), 1);
        line.release(5);
        CHECKS.equal("released", line.parent(6), 1);
    }

    /** "that tells this id as its parent": one that was joined to it by hand does not, whatever grandparent it tells. */
    private static void joinedOnesTellNothingOfIt() {
        Threadline line = plain(1, 3, 6);
        line.letter(5, 1, 20, 5, 0, 0);
        line.join(5, 3);
        line.join(6, 3);
        line.delete(3);
        CHECKS.equal("3 is missing and has no link", line.state(3), 2);
        CHECKS.equal("both stay joined to it", Snapshot.tree(line, 3), " 3 5 6");
        CHECKS.equal("20 is told by 5 still", line.state(20), 1);
    }

    /** A letter joined by hand to an id that goes hangs over it, as one that tells it does. */
    private static void joinedToAMissingIdWithALink() {
        Threadline line = plain(1, 2, 3);
        line.letter(9, 3, 1, 4, 0, 0);
        CHECKS.equal("joined", line.join(2, 1), 1);
        line.delete(1);
        CHECKS.equal("1 is linked to 3 by what 9 tells", line.parent(2), 3);
        CHECKS.equal("and is not in the forest", line.state(1), 1);
        line.delete(9);
        CHECKS.equal("nobody tells of 1: it has one alone", line.parent(2), -1);
    }

    /** "unless that is the id itself" */
    private static void notLinkedToItself() {
        for (int id : new int[] {0, 15, 29}) {
            Threadline line = new Threadline();
            line.letter(id, id, id, 0, 0, 0);
            CHECKS.equal("a letter that tells itself twice", line.parent(id), -1);
            CHECKS.equal("a root", line.root(0), id);
            line.letter(10, id, 11, 0, 1, 0);
            CHECKS.equal("others hang below it", line.parent(10), id);
            Threadline missing = new Threadline();
            missing.letter(5, id, id, 0, 0, 0);
            CHECKS.equal("a missing id that is its own grandparent, of one", missing.state(id), 1);
            CHECKS.equal("which has no parent", missing.parent(5), -1);
            missing.letter(6, -1, id, 0, 1, 0);
            CHECKS.equal("of two", missing.state(id), 2);
        }
    }

    /** "or is below it by the links so far": one link below, and several */
    private static void notLinkedToOneBelow() {
        for (int length = 2; length <= 30; length++) {
            Threadline line = new Threadline();
            for (int id = 0; id < length; id++) {
                line.letter(id, -1, (id + 1) % length, 0, 0, 0);
            }
            CHECKS.equal("the last of " + length, line.parent(length - 1), -1);
            CHECKS.equal("the one before it", line.parent(length - 2), length - 1);
            CHECKS.equal("one tree", line.letters(length - 1), length);
        }
    }

    private static void linkedToOneThatIsBelowNoMore() {
        Threadline line = plain(9);
        line.letter(2, -1, 1, 0, 0, 0);
        line.letter(1, -1, 2, 0, 0, 0);
        CHECKS.equal("refused", line.parent(2), -1);
        line.join(1, 9);
        CHECKS.equal("1 is joined elsewhere", line.parent(2), 1);
        line.release(1);
        CHECKS.equal("released", line.parent(2), -1);
        line.delete(1);
        line.letter(1, -1, -1, 0, 0, 0);
        CHECKS.equal("1 comes again and tells none", line.parent(2), 1);
    }

    /** "The known ids are gone through by rising numbers": what a higher id tells is no link yet. */
    private static void linksSoFar() {
        Threadline line = new Threadline();
        line.letter(8, -1, 3, 0, 0, 0);
        line.letter(3, -1, 5, 0, 0, 0);
        line.letter(5, -1, 8, 0, 0, 0);
        CHECKS.equal("3, the first", line.parent(3), 5);
        CHECKS.equal("5, the second", line.parent(5), 8);
        CHECKS.equal("8, the last, would close it", line.parent(8), -1);
        line.letter(1, -1, 1, 0, 0, 0);
        line.join(3, 1);
        CHECKS.equal("3 goes elsewhere", line.parent(8), 3);
        CHECKS.equal("and all with it", Snapshot.tree(line, 1), " 1 3 8 5");
    }

    /** Missing ids are gone through by their numbers too, among the letters. */
    private static void missingLoops() {
        Threadline line = new Threadline();
        line.letter(5, 2, 1, 0, 0, 0);
        line.letter(6, 1, 2, 1, 0, 0);
        CHECKS.equal("1 is linked to 2", line.state(1), 1);
        CHECKS.equal("2 is not linked to 1", line.state(2), 2);
        CHECKS.equal("both hang at 2", Snapshot.tree(line, 2), " 2 5 6");
        line.delete(6);
        CHECKS.equal("2 has one alone", line.state(2), 1);
        Threadline through = new Threadline();
        through.letter(3, 3, 20, 0, 0, 0);
        through.letter(4, -1, 20, 1, 0, 0);
        CHECKS.equal("3 is linked to 20 first, then 20 is not linked to 3", Snapshot.tree(through, 20), " 20 3 4");
        Threadline before = new Threadline();
        before.letter(3, 3, 2, 0, 0, 0);
        before.letter(4, -1, 2, 1, 0, 0);
        CHECKS.equal("2 is linked to 3 first, then 3 is not linked to 2", Snapshot.tree(before, 3), " 3 4");
    }

    /** "and so on, until a letter comes, or a missing id without a link" */
    private static void parentOverMissingIds() {
        for (int missing = 0; missing <= 13; missing++) {
            Threadline line = new Threadline();
            for (int id = 0; id < missing; id++) {
                line.letter(id, 16 + id, 15 + id, 0, 0, 0);
            }
            line.letter(14, -1, 15, 0, 0, 0);
            int above = 15 + missing;
            CHECKS.equal("over " + missing + " to a missing one", line.parent(14), missing == 0 ? -1 : above);
            CHECKS.equal("state of it", line.state(above), missing == 0 ? 1 : 2);
            line.letter(above, -1, -1, 0, 0, 0);
            CHECKS.equal("over " + missing + " to a letter", line.parent(14), above);
            CHECKS.equal("all of them there", line.children(above), missing + 1);
        }
    }

    /** "and is the parent of two letters or more in this way" */
    private static void missingOfNoneOneTwoThree() {
        Threadline line = plain(10);
        line.letter(11, 20, 10, 0, 0, 0);
        CHECKS.equal("of none", line.state(20), 1);
        line.letter(1, -1, 20, 1, 0, 0);
        CHECKS.equal("of one", line.state(20), 1);
        CHECKS.outOfBounds("so it has no children to tell", () -> line.children(20));
        line.letter(2, -1, 20, 2, 0, 0);
        CHECKS.equal("of two", line.state(20), 2);
        CHECKS.equal("children", line.children(20), 2);
        line.letter(3, 20, 21, 3, 0, 0);
        CHECKS.equal("of three, one over a missing id", line.children(20), 3);
        line.split(1);
        CHECKS.equal("of two again", line.children(20), 2);
        line.join(2, 10);
        CHECKS.equal("of one again", line.state(20), 1);
        CHECKS.equal("that has no parent", line.parent(3), -1);
        line.delete(3);
        CHECKS.equal("of none again", line.state(20), 1);
    }

    /** "A missing id is in the forest only if it has no link" */
    private static void missingWithALinkIsNotInTheForest() {
        Threadline line = new Threadline();
        line.letter(1, 21, 20, 1, 0, 0);
        line.letter(2, -1, 20, 2, 0, 0);
        line.letter(3, -1, 20, 3, 0, 0);
        CHECKS.equal("told by three", line.state(20), 1);
        CHECKS.outOfBounds("its tree", () -> line.inTree(20, 0));
        CHECKS.equal("the one above", line.children(21), 3);
        line.letter(21, 20, 20, 4, 0, 0);
        CHECKS.equal("21 comes and tells 20, linked to 21", line.parent(21), -1);
        CHECKS.equal("the letters below", line.children(21), 3);
    }

    /** "if it is the parent of one alone, that has no parent" */
    private static void missingOfOneAlone() {
        Threadline line = new Threadline();
        line.letter(1, -1, 20, 1, 30, 0);
        line.letter(2, -1, 1, 1, 20, 0);
        line.letter(3, -1, 1, 1, 10, 0);
        CHECKS.equal("though there are two below that one", line.state(20), 1);
        CHECKS.equal("it is a root", Snapshot.roots(line), " 1");
        CHECKS.equal("split has nothing to split it from", line.split(1), -1);
        CHECKS.equal("but was done", line.release(1), true);
    }

    /** "Then, for subjects": a missing id in the forest keeps what it has, and gets none by subjects. */
    private static void countedBeforeSubjects() {
        Threadline line = new Threadline();
        line.letter(1, -1, -1, 4, 100, 0);
        line.letter(2, -1, 20, 14, 101, 0);
        CHECKS.equal("of one alone: it goes by its subject", line.parent(2), 1);
        line.letter(3, -1, 20, 14, 102, 0);
        CHECKS.equal("of two: they stay", Snapshot.tree(line, 20), " 20 2 3");
        line.letter(4, -1, -1, 14, 103, 0);
        CHECKS.equal("another goes by its subject to a letter", line.parent(4), 1);
        CHECKS.equal("of two", line.children(20), 2);
    }

    /** Days at the first and the last day there is. */
    private static void subjectOnTheFirstAndTheLastDays() {
        Threadline line = new Threadline();
        line.letter(1, -1, -1, 4, 0, 0);
        line.letter(2, -1, -1, 14, 0, 0);
        line.letter(3, -1, -1, 14, 14, 0);
        line.letter(4, -1, -1, 14, 15, 0);
        CHECKS.equal("day 0 to day 0", line.parent(2), 1);
        CHECKS.equal("day 14 to day 0", line.parent(3), 1);
        CHECKS.equal("day 15 to day 0", line.parent(4), -1);
        line.letter(11, -1, -1, 5, 985, 0);
        line.letter(12, -1, -1, 15, 999, 0);
        line.letter(13, -1, -1, 15, 984, 0);
        CHECKS.equal("day 999 to day 985", line.parent(12), 11);
        CHECKS.equal("day 984 to day 985", line.parent(13), -1);
        line.delete(11);
        line.letter(11, -1, -1, 5, 984, 0);
        CHECKS.equal("day 999 to day 984", line.parent(12), -1);
        CHECKS.equal("day 984 to day 984", line.parent(13), 11);
    }

    /** "a day that is not later and at most 14 days earlier" */
    private static void subjectDays() {
        for (int day = 480; day <= 520; day++) {
            Threadline line = new Threadline();
            line.letter(1, -1, -1, 4, day, 0);
            line.letter(2, -1, -1, 14, 500, 0);
            boolean inTime = day >= 486 && day <= 500;
            CHECKS.equal("day 500 to day " + day, line.parent(2), inTime ? 1 : -1);
            CHECKS.equal("roots", line.roots(), inTime ? 1 : 2);
        }
    }

    /** "has the same subject" */
    private static void subjectIsTheSame() {
        for (int subject = 0; subject < 10; subject++) {
            for (int other = 0; other < 10; other++) {
                Threadline line = new Threadline();
                line.letter(1, -1, -1, subject, 5, 0);
                line.letter(0, -1, -1, 10 + other, 5, 0);
                CHECKS.equal(subject + " and reply " + other, line.parent(0), subject == other ? 1 : -1);
            }
        }
    }

    /** "that is no reply"; and only "a letter .. that is a reply" gets a parent so */
    private static void subjectNoReply() {
        for (int kinds = 0; kinds < 4; kinds++) {
            Threadline line = new Threadline();
            line.letter(1, -1, -1, 4 + 10 * (kinds & 1), 5, 0);
            line.letter(2, -1, -1, 4 + 10 * (kinds >> 1), 5, 0);
            CHECKS.equal("parent of 1, kinds " + kinds, line.parent(1), kinds == 1 ? 2 : -1);
            CHECKS.equal("parent of 2, kinds " + kinds, line.parent(2), kinds == 2 ? 1 : -1);
        }
    }

    /** "the letter without a parent", "if there is one" */
    private static void subjectWithoutAParent() {
        Threadline line = plain(9);
        line.letter(3, -1, -1, 14, 106, 0);
        CHECKS.equal("there is none", line.parent(3), -1);
        line.letter(2, -1, 9, 4, 105, 0);
        CHECKS.equal("one that has a parent", line.parent(3), -1);
        line.split(2);
        CHECKS.equal("split from it", line.parent(3), 2);
        line.release(2);
        CHECKS.equal("released", line.parent(3), -1);
        line.delete(9);
        CHECKS.equal("its parent is a missing id of one alone", line.parent(3), 2);
        line.letter(8, -1, 9, 8, 300, 0);
        CHECKS.equal("its parent is a missing id in the forest", line.parent(3), -1);
        line.letter(1, -1, 1, 4, 92, 0);
        CHECKS.equal("one that tells itself has none", line.parent(3), 1);
    }

    /** "of several the one with the latest day, of several with that the one with the lowest id" */
    private static void subjectOfTheLatestDayAndTheLowestId() {
        Threadline line = new Threadline();
        line.letter(15, -1, -1, 14, 500, 0);
        line.letter(0, -1, -1, 4, 486, 0);
        CHECKS.equal("the earliest day there may be", line.parent(15), 0);
        line.letter(29, -1, -1, 4, 487, 0);
        CHECKS.equal("a later day, a higher id", line.parent(15), 29);
        line.letter(28, -1, -1, 4, 487, 0);
        CHECKS.equal("that day, a lower id", line.parent(15), 28);
        line.letter(16, -1, -1, 4, 500, 0);
        CHECKS.equal("the latest day there may be", line.parent(15), 16);
        line.letter(14, -1, -1, 4, 500, 0);
        CHECKS.equal("that day, a lower id", line.parent(15), 14);
        line.letter(1, -1, -1, 4, 501, 0);
        CHECKS.equal("a day too late", line.parent(15), 14);
        line.letter(2, -1, -1, 4, 499, 0);
        CHECKS.equal("a day before, a lower id", line.parent(15), 14);
    }

    /** "and was not split by hand" */
    private static void subjectNotForASplitReply() {
        Threadline line = new Threadline();
        line.letter(1, -1, -1, 4, 100, 0);
        line.letter(2, -1, -1, 14, 100, 0);
        CHECKS.equal("its parent before", line.split(2), 1);
        CHECKS.equal("none then", line.parent(2), -1);
        line.letter(0, -1, -1, 4, 100, 0);
        CHECKS.equal("nor when another comes", line.parent(2), -1);
        CHECKS.equal("split again: it had none", line.split(2), -1);
        CHECKS.equal("join to the one of two", line.join(2, 1), 1);
        CHECKS.equal("the join is forgotten", line.split(2), 1);
        CHECKS.equal("none then", line.parent(2), -1);
        line.release(2);
        CHECKS.equal("released", line.parent(2), 0);
    }

    private static void subjectForAReplyWhoseLinkIsRefused() {
        Threadline line = new Threadline();
        line.letter(1, -1, -1, 4, 100, 0);
        line.letter(2, -1, 2, 14, 100, 0);
        CHECKS.equal("it tells itself", line.parent(2), 1);
        line.letter(3, -1, 4, 15, 100, 0);
        line.letter(4, -1, 3, 14, 100, 0);
        CHECKS.equal("3 is linked to 4", line.parent(3), 4);
        CHECKS.equal("4 is not linked, so it goes by its subject", line.parent(4), 1);
        CHECKS.illegalState("which makes it part of that tree", () -> line.join(1, 3));
    }

    /** "by rising days, on the same day by rising ids" */
    private static void childrenByDaysThenIds() {
        Threadline line = plain(15);
        line.letter(29, -1, 15, 0, 0, 0);
        line.letter(0, -1, 15, 0, 999, 0);
        line.letter(16, -1, 15, 0, 500, 0);
        line.letter(14, -1, 15, 0, 500, 0);
        line.letter(13, -1, 15, 0, 501, 0);
        line.letter(17, -1, 15, 0, 499, 0);
        CHECKS.equal("the tree", Snapshot.tree(line, 15), " 15 29 17 14 16 13 0");
        line.letter(1, -1, 0, 0, 0, 0);
        CHECKS.equal("a child's child does not count", Snapshot.tree(line, 15), " 15 29 17 14 16 13 0 1");
        line.delete(15);
        CHECKS.equal("below a missing id too", Snapshot.tree(line, 15), " 15 29 17 14 16 13 0 1");
    }

    /** "by the earliest days of all letters in their trees, with the same one by rising ids" */
    private static void rootsByEarliestDaysThenIds() {
        Threadline line = new Threadline();
        line.letter(20, -1, -1, 0, 999, 0);
        line.letter(10, -1, -1, 0, 500, 0);
        line.letter(15, -1, -1, 0, 500, 0);
        CHECKS.equal("by their own days", Snapshot.roots(line), " 10 15 20");
        line.letter(1, -1, 20, 0, 501, 0);
        CHECKS.equal("a child a day later", Snapshot.roots(line), " 10 15 20");
        line.letter(2, -1, 20, 0, 500, 0);
        CHECKS.equal("a child of the same day", Snapshot.roots(line), " 10 15 20");
        line.letter(3, -1, 1, 0, 499, 0);
        CHECKS.equal("a child's child a day earlier", Snapshot.roots(line), " 20 10 15");
        line.letter(4, -1, 5, 0, 999, 0);
        line.letter(6, -1, 5, 0, 499, 0);
        CHECKS.equal("a missing id with the same earliest day", Snapshot.roots(line), " 5 20 10 15");
        line.letter(7, -1, -1, 10, 500, 0);
        CHECKS.equal("a reply below 10 by its subject", Snapshot.roots(line), " 5 20 10 15");
        line.letter(8, -1, 7, 0, 0, 0);
        CHECKS.equal("the first day below that", Snapshot.roots(line), " 10 5 20 15");
    }

    /** "the id itself, then the trees of its children, one after the other" */
    private static void orderOfATree() {
        Threadline line = plain(0);
        line.letter(1, -1, 0, 0, 2, 0);
        line.letter(2, -1, 0, 0, 1, 0);
        line.letter(3, -1, 1, 0, 9, 0);
        line.letter(4, -1, 2, 0, 8, 0);
        line.letter(5, -1, 4, 0, 7, 0);
        line.letter(6, -1, 2, 0, 8, 0);
        line.letter(7, -1, 1, 0, 0, 0);
        CHECKS.equal("of the root", Snapshot.tree(line, 0), " 0 2 4 5 6 1 7 3");
        CHECKS.equal("of a child", Snapshot.tree(line, 2), " 2 4 5 6");
        CHECKS.equal("of the other", Snapshot.tree(line, 1), " 1 7 3");
        CHECKS.equal("of one in between", Snapshot.tree(line, 4), " 4 5");
        CHECKS.equal("of a leaf", Snapshot.tree(line, 5), " 5");
    }

    /** "If several apply, IllegalArgumentException goes first, then IndexOutOfBoundsException." */
    private static void argumentGoesBeforeBounds() {
        Threadline line = plain(3);
        for (int place : new int[] {-1, 0, 1, 30, Integer.MIN_VALUE, Integer.MAX_VALUE}) {
            CHECKS.illegalArgument("id -1, place " + place, () -> line.inTree(-1, place));
            CHECKS.illegalArgument("id 30, place " + place, () -> line.inTree(30, place));
            CHECKS.outOfBounds("id 4, place " + place, () -> line.inTree(4, place));
        }
        CHECKS.illegalArgument("letter 3 there, person 10", () -> line.letter(3, -1, -1, 0, 0, 10));
        CHECKS.illegalArgument("no letter 4, the same", () -> line.join(4, 4));
        CHECKS.illegalArgument("no letter 4, out of range", () -> line.join(4, 30));
    }

    /** "what was done with it by hand, and whether it was read, is forgotten", of the deleted one alone */
    private static void handsAreForgotten() {
        Threadline line = plain(1, 2, 3);
        line.join(2, 1);
        line.join(3, 2);
        line.read(1);
        line.delete(2);
        CHECKS.equal("3 is below a missing id of one alone", line.parent(3), -1);
        CHECKS.equal("3 stays read", line.unread(3), 0);
        line.letter(2, -1, -1, 2, 500, 0);
        CHECKS.equal("2 is joined no more", line.parent(2), -1);
        CHECKS.equal("2 is unread", line.unread(2), 1);
        CHECKS.equal("3 is joined still", line.parent(3), 2);
        CHECKS.equal("nothing was done with 2", line.release(2), false);
        CHECKS.equal("something with 3", line.release(3), true);
        line.split(2);
        line.delete(2);
        line.letter(2, -1, 1, 2, 500, 0);
        CHECKS.equal("2 is split no more", line.parent(2), 1);
    }

    /** "splits and joins by hand hold", whatever comes and goes */
    private static void handsHold() {
        Threadline line = plain(1, 2);
        line.letter(3, -1, 1, 0, 500, 0);
        line.letter(4, -1, 1, 0, 500, 0);
        line.split(3);
        line.join(4, 2);
        line.delete(1);
        line.delete(2);
        CHECKS.equal("both gone: split", line.parent(3), -1);
        CHECKS.equal("both gone: joined", line.parent(4), -1);
        line.letter(2, -1, 3, 0, 500, 0);
        line.letter(1, -1, 2, 0, 500, 0);
        CHECKS.equal("both came again: split", line.parent(3), -1);
        CHECKS.equal("both came again: joined", line.parent(4), 2);
    }

    /** A join by hand is a told parent as any other: where it would close a loop, the lower id is linked. */
    private static void loopsThroughHands() {
        Threadline line = plain(1, 2);
        line.join(2, 1);
        line.delete(1);
        line.letter(1, -1, 2, 1, 500, 0);
        CHECKS.equal("1 comes again and tells 2", line.parent(1), 2);
        CHECKS.equal("2 has no link", line.parent(2), -1);
        line.split(1);
        CHECKS.equal("the join is there still", line.parent(2), 1);
        line.release(1);
        CHECKS.equal("something was done with 2", line.release(2), true);
        Threadline high = plain(8, 9);
        high.join(8, 9);
        high.delete(9);
        high.letter(9, -1, 8, 9, 500, 0);
        CHECKS.equal("the lower one was joined", high.parent(8), 9);
        CHECKS.equal("the higher one tells", high.parent(9), -1);
    }
}
