/** The first and the last value of each range are taken and do what they mean; RefusalsTest has the ones beside them. */
final class RangesTest {
    private static final Checks CHECKS = new Checks("RangesTest");

    public static void main(String[] args) {
        idsOfLetters();
        parentsThatAreTold();
        grandparentsThatAreTold();
        noneWhereNoneIsAllowed();
        subjects();
        days();
        people();
        deleteOfTheFirstAndTheLastId();
        splitOfTheFirstAndTheLastId();
        joinOfTheFirstAndTheLastId();
        releaseOfTheFirstAndTheLastId();
        readOfTheFirstAndTheLastId();
        stateOfTheFirstAndTheLastId();
        forestOfTheFirstAndTheLastId();
        guessedFirstAndLastId();
        placesOfRoots();
        placesOfATree();
        CHECKS.finish();
    }

    /** "Letters have the ids 0 to 29." */
    private static void idsOfLetters() {
        for (int id = 0; id < 30; id++) {
            Threadline line = new Threadline();
            CHECKS.equal("letter " + id, line.letter(id, -1, -1, 0, 0, 0), 1);
            CHECKS.equal("the root is " + id, line.root(0), id);
            for (int other = 0; other < 30; other++) {
                CHECKS.equal("state " + other + " with letter " + id, line.state(other), other == id ? 3 : 0);
            }
        }
    }

    /** "parent: 0 to 29, or -1 for none" */
    private static void parentsThatAreTold() {
        for (int told = 0; told < 30; told++) {
            int id = told == 14 ? 15 : 14;
            Threadline line = new Threadline();
            CHECKS.equal("before its parent " + told, line.letter(id, -1, told, 0, 0, 0), 1);
            CHECKS.equal("the parent told is missing", line.state(told), 1);
            CHECKS.equal("with its parent " + told, line.letter(told, -1, -1, 0, 0, 0), 1);
            CHECKS.equal("parent", line.parent(id), told);
        }
    }

    /** "grandparent: 0 to 29, or -1 for none" */
    private static void grandparentsThatAreTold() {
        for (int told = 0; told < 30; told++) {
            int id = told == 14 ? 15 : 14;
            int parent = told == 16 ? 17 : 16;
            Threadline line = new Threadline();
            CHECKS.equal("before its grandparent " + told, line.letter(id, told, parent, 0, 0, 0), 1);
            CHECKS.equal("the grandparent told is missing", line.state(told), 1);
            CHECKS.equal("with its grandparent " + told, line.letter(told, -1, -1, 0, 0, 0), 1);
            CHECKS.equal("parent over the missing one", line.parent(id), told);
        }
    }

    private static void noneWhereNoneIsAllowed() {
        Threadline line = new Threadline();
        CHECKS.equal("no parent, no grandparent", line.letter(0, -1, -1, 0, 0, 0), 1);
        CHECKS.equal("a parent, no grandparent", line.letter(1, -1, 0, 0, 0, 0), 1);
        CHECKS.equal("a parent and a grandparent", line.letter(2, 0, 1, 0, 0, 0), 1);
        CHECKS.equal("none is no id: 29", line.state(29), 0);
        CHECKS.equal("in one tree", Snapshot.tree(line, 0), " 0 1 2");
    }

    /** "subject: 0 to 9, and 10 more for a reply" */
    private static void subjects() {
        for (int subject = 0; subject < 10; subject++) {
            Threadline line = new Threadline();
            for (int id = 0; id < 10; id++) {
                line.letter(id, -1, -1, id, 5, 0);
                line.letter(10 + id, -1, -1, id, 5, 0);
            }
            CHECKS.equal("no subject without 10 more is a reply", line.roots(), 20);
            line.letter(29, -1, -1, subject + 10, 5, 0);
            CHECKS.equal("a reply to subject " + subject, line.parent(29), subject);
        }
        Threadline line = new Threadline();
        line.letter(0, -1, -1, 9, 5, 0);
        line.letter(1, -1, -1, 10, 5, 0);
        CHECKS.equal("10 is a reply to 0, not to 9", line.parent(1), -1);
        line.letter(2, -1, -1, 0, 5, 0);
        CHECKS.equal("and 0 comes", line.parent(1), 2);
        line.letter(3, -1, -1, 19, 5, 0);
        CHECKS.equal("19 is a reply to 9", line.parent(3), 0);
    }

    /** "day: 0 to 999" */
    private static void days() {
        for (int day : new int[] {0, 1, 998, 999}) {
            Threadline line = new Threadline();
            CHECKS.equal("day " + day, line.letter(0, -1, -1, 0, day, 0), 1);
            CHECKS.equal("the latest is " + day, line.latest(0), day);
        }
        Threadline line = new Threadline();
        line.letter(0, -1, -1, 0, 999, 0);
        line.letter(1, -1, -1, 0, 998, 0);
        line.letter(2, -1, -1, 0, 1, 0);
        line.letter(3, -1, -1, 0, 0, 0);
        CHECKS.equal("roots from the first day to the last", Snapshot.roots(line), " 3 2 1 0");
    }

    /** "person: 0 to 9", and "Returns a set: bit p for person p." */
    private static void people() {
        Threadline line = new Threadline();
        int all = 0;
        for (int person = 0; person < 10; person++) {
            Threadline alone = new Threadline();
            alone.letter(5, -1, -1, 0, 0, person);
            CHECKS.equal("person " + person + " alone", alone.people(5), 1 << person);
            line.letter(person, -1, person - 1, 0, 0, person);
            all |= 1 << person;
            CHECKS.equal("with person " + person, line.people(0), all);
        }
    }

    private static void deleteOfTheFirstAndTheLastId() {
        Threadline line = Setups.fullRoots();
        CHECKS.equal("delete 0", line.delete(0), 29);
        CHECKS.equal("delete 29", line.delete(29), 28);
        CHECKS.equal("state 0", line.state(0), 0);
        CHECKS.equal("state 29", line.state(29), 0);
        CHECKS.equal("the first root then", line.root(0), 1);
        CHECKS.equal("the last root then", line.root(27), 28);
    }

    private static void splitOfTheFirstAndTheLastId() {
        Threadline first = Setups.fullChainUpwards();
        CHECKS.equal("split 0 from 1", first.split(0), 1);
        CHECKS.equal("parent of 0", first.parent(0), -1);
        CHECKS.equal("split 29, which has none", first.split(29), -1);
        Threadline last = Setups.fullChain();
        CHECKS.equal("split 29 from 28", last.split(29), 28);
        CHECKS.equal("parent of 29", last.parent(29), -1);
        CHECKS.equal("split 1 from 0", last.split(1), 0);
        CHECKS.equal("split 0, which has none", last.split(0), -1);
    }

    private static void joinOfTheFirstAndTheLastId() {
        Threadline line = Setups.fullRoots();
        CHECKS.equal("join 0 to 29", line.join(0, 29), 29);
        CHECKS.equal("its tree", Snapshot.tree(line, 29), " 29 0");
        line = Setups.fullRoots();
        CHECKS.equal("join 29 to 0", line.join(29, 0), 0);
        CHECKS.equal("its tree", Snapshot.tree(line, 0), " 0 29");
    }

    private static void releaseOfTheFirstAndTheLastId() {
        Threadline line = Setups.fullRoots();
        for (int id : new int[] {0, 29}) {
            CHECKS.equal("nothing was done with " + id, line.release(id), false);
            line.split(id);
            CHECKS.equal("split " + id, line.release(id), true);
            CHECKS.equal("once", line.release(id), false);
            line.join(id, 29 - id);
            CHECKS.equal("join " + id, line.release(id), true);
            CHECKS.equal("a root again", line.parent(id), -1);
        }
    }

    private static void readOfTheFirstAndTheLastId() {
        Threadline line = Setups.fullChain();
        CHECKS.equal("read 29", line.read(29), 1);
        CHECKS.equal("read 29 again", line.read(29), 0);
        CHECKS.equal("read 0", line.read(0), 29);
        CHECKS.equal("read 0 again", line.read(0), 0);
    }

    private static void stateOfTheFirstAndTheLastId() {
        for (int id : new int[] {0, 29}) {
            Threadline line = new Threadline();
            CHECKS.equal("not known " + id, line.state(id), 0);
            line.letter(5, -1, id, 0, 0, 0);
            CHECKS.equal("missing, not in the forest " + id, line.state(id), 1);
            line.letter(6, -1, id, 0, 0, 0);
            CHECKS.equal("missing, in the forest " + id, line.state(id), 2);
            line.letter(id, -1, -1, 0, 0, 0);
            CHECKS.equal("a letter " + id, line.state(id), 3);
        }
    }

    private static void forestOfTheFirstAndTheLastId() {
        Threadline line = new Threadline();
        line.letter(0, -1, -1, 0, 7, 2);
        line.letter(29, -1, 0, 0, 8, 3);
        CHECKS.equal("all of both", Snapshot.of(line), "roots 0"
            + "; 0 state 3 parent -1 children 1 depth 0 letters 2 unread 2 people 12 latest 8 tree 0 29"
            + "; 29 state 3 parent 0 children 0 depth 1 letters 1 unread 1 people 8 latest 8 tree 29");
        line = new Threadline();
        line.letter(29, -1, -1, 0, 7, 2);
        line.letter(0, -1, 29, 0, 8, 3);
        CHECKS.equal("the other way round", Snapshot.of(line), "roots 29"
            + "; 0 state 3 parent 29 children 0 depth 1 letters 1 unread 1 people 8 latest 8 tree 0"
            + "; 29 state 3 parent -1 children 1 depth 0 letters 2 unread 2 people 12 latest 8 tree 29 0");
    }

    /** A missing id in the forest is "an id in the forest" for every call that takes one. */
    private static void guessedFirstAndLastId() {
        for (int id : new int[] {0, 29}) {
            Threadline line = new Threadline();
            line.letter(5, -1, id, 0, 9, 1);
            line.letter(6, -1, id, 0, 4, 2);
            CHECKS.equal("the root", line.root(0), id);
            CHECKS.equal("parent", line.parent(id), -1);
            CHECKS.equal("children", line.children(id), 2);
            CHECKS.equal("depth", line.depth(id), 0);
            CHECKS.equal("letters", line.letters(id), 2);
            CHECKS.equal("unread", line.unread(id), 2);
            CHECKS.equal("people", line.people(id), 6);
            CHECKS.equal("latest", line.latest(id), 9);
            CHECKS.equal("tree", Snapshot.tree(line, id), " " + id + " 6 5");
            CHECKS.outOfBounds("behind its tree", () -> line.inTree(id, 3));
            CHECKS.equal("read", line.read(id), 2);
            CHECKS.equal("all read", line.unread(id), 0);
        }
    }

    /** "place: 0 for the first one", for 1 to 30 roots */
    private static void placesOfRoots() {
        Threadline line = new Threadline();
        for (int count = 0; count <= 30; count++) {
            int behind = count;
            CHECKS.equal("roots", line.roots(), count);
            CHECKS.outOfBounds("root behind the last of " + count, () -> line.root(behind));
            CHECKS.outOfBounds("root before the first of " + count, () -> line.root(-1));
            if (count > 0) {
                CHECKS.equal("first of " + count, line.root(0), 0);
                CHECKS.equal("last of " + count, line.root(count - 1), count - 1);
            }
            if (count < 30) {
                line.letter(count, -1, -1, 0, 0, 0);
            }
        }
    }

    /** "place: 0 for the id itself", for trees of 1 to 30 */
    private static void placesOfATree() {
        Threadline line = Setups.fullChain();
        for (int id = 0; id < 30; id++) {
            int it = id;
            CHECKS.equal("itself", line.inTree(id, 0), id);
            CHECKS.equal("the last of its tree", line.inTree(id, 29 - id), 29);
            CHECKS.outOfBounds("behind the last of " + id, () -> line.inTree(it, 30 - it));
            CHECKS.outOfBounds("before the first of " + id, () -> line.inTree(it, -1));
        }
    }
}
