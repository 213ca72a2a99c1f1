/** All that an object answers without being changed, as one text. */
final class Snapshot {
    private static final int IDS = 30;

    private Snapshot() {
    }

    static String of(Threadline line) {
        StringBuilder text = new StringBuilder("roots");
        for (int place = 0; place < line.roots(); place++) {
            text.append(' ').append(line.root(place));
        }
        for (int id = 0; id < IDS; id++) {
            int state = line.state(id);
            if (state != 0) {
                text.append("; ").append(id).append(" state ").append(state);
            }
            if (state >= 2) {
                describe(text, line, id);
            }
        }
        return text.toString();
    }

    private static void describe(StringBuilder text, Threadline line, int id) {
        text.append(" parent ").append(line.parent(id));
        text.append(" children ").append(line.children(id));
        text.append(" depth ").append(line.depth(id));
        text.append(" letters ").append(line.letters(id));
        text.append(" unread ").append(line.unread(id));
        text.append(" people ").append(line.people(id));
        text.append(" latest ").append(line.latest(id));
        text.append(" tree").append(tree(line, id));
    }

    /** The ids of a tree, up to the first place that does not exist. */
    static String tree(Threadline line, int id) {
        StringBuilder text = new StringBuilder();
        for (int place = 0; place < 2 * IDS; place++) {
            try {
                int found = line.inTree(id, place);
                text.append(' ').append(found);
            } catch (IndexOutOfBoundsException e) {
                return text.toString();
            }
        }
        return text.append(" without end").toString();
    }

    static String roots(Threadline line) {
        StringBuilder text = new StringBuilder();
        for (int place = 0; place < line.roots(); place++) {
            text.append(' ').append(line.root(place));
        }
        return text.toString();
    }
}
