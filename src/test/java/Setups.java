/** Objects for the tests of edges: without letters, with every kind of id, and with all 30 letters in several shapes. */
final class Setups {
    static final int IDS = 30;

    /** How the ids stand in mixed(); the one missing id that is in the forest there is 20. */
    static final int[] MIXED_LETTERS = {0, 1, 2, 3, 4, 5, 6, 7, 8, 9, 23, 29};
    static final int MIXED_GUESSED = 20;
    static final int[] MIXED_OUTSIDE = {10, 21, 22, 24};
    static final int[] MIXED_UNKNOWN = {11, 12, 13, 14, 15, 16, 17, 18, 19, 25, 26, 27, 28};
    /** All ids of mixed() that are not in the forest. */
    static final int[] MIXED_NOT_IN_FOREST = {10, 21, 22, 24, 11, 12, 13, 14, 15, 16, 17, 18, 19, 25, 26, 27, 28};

    private Setups() {
    }

    static Threadline empty() {
        return new Threadline();
    }

    /** Without letters again, after all 30 were there, were split and joined, read and deleted. */
    static Threadline emptied() {
        Threadline line = fullStar();
        line.split(7);
        line.join(8, 7);
        line.read(3);
        for (int id = 0; id < IDS; id++) {
            line.delete(id);
        }
        return line;
    }

    /** The trees are 20 5 4, then 6, then 0 1 2 3 23, then 7 8, then 9, then 29. */
    static Threadline mixed() {
        Threadline line = new Threadline();
        line.letter(0, -1, -1, 4, 100, 0);
        line.letter(1, -1, 0, 4, 101, 1);
        line.letter(2, -1, 1, 4, 102, 2);
        line.letter(3, -1, -1, 14, 105, 3);
        line.letter(4, -1, 20, 1, 51, 4);
        line.letter(5, -1, 20, 1, 50, 5);
        line.letter(6, 22, 21, 2, 60, 6);
        line.letter(7, -1, 0, 5, 103, 7);
        line.letter(8, -1, 0, 6, 104, 8);
        line.letter(9, -1, -1, 7, 200, 1);
        line.letter(10, -1, -1, 7, 201, 1);
        line.letter(23, 0, 24, 8, 110, 1);
        line.letter(29, -1, -1, 19, 999, 9);
        line.split(7);
        line.join(8, 7);
        line.join(9, 10);
        line.delete(10);
        line.read(2);
        line.read(4);
        return line;
    }

    /** 30 letters that tell nothing, all of one day. */
    static Threadline fullRoots() {
        Threadline line = new Threadline();
        for (int id = 0; id < IDS; id++) {
            line.letter(id, -1, -1, id % 10, 500, id % 10);
        }
        return line;
    }

    /** 0 is the root, and each other letter answers the one before it. */
    static Threadline fullChain() {
        Threadline line = new Threadline();
        for (int id = 0; id < IDS; id++) {
            line.letter(id, -1, id - 1, 0, 999 - id, id % 10);
        }
        return line;
    }

    /** 29 is the root, and each other letter answers the one behind it. */
    static Threadline fullChainUpwards() {
        Threadline line = new Threadline();
        for (int id = 0; id < IDS; id++) {
            line.letter(id, -1, id == 29 ? -1 : id + 1, 0, id, id % 10);
        }
        return line;
    }

    /** 0 is the root, and all others answer it. */
    static Threadline fullStar() {
        Threadline line = new Threadline();
        for (int id = 0; id < IDS; id++) {
            line.letter(id, -1, id == 0 ? -1 : 0, 0, id == 0 ? 900 : 500, id % 10);
        }
        return line;
    }
}
