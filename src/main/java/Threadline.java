/** A joiner of letters into conversations. */
public final class Threadline {
    private static final int IDS = 30;
    private static final int SUBJECTS = 10;
    private static final int DAYS = 1000;
    private static final int PEOPLE = 10;
    private static final int REPLY_DAYS = 14;

    /** In place of an id: there is none. */
    private static final int NONE = -1;
    /** In the row of what was done by hand, where else the id stands to which a letter was joined. */
    private static final int UNTOUCHED = -1;
    private static final int SPLIT = -2;

    private static final int STATE_UNKNOWN = 0;
    private static final int STATE_OUTSIDE = 1;
    private static final int STATE_GUESSED = 2;
    private static final int STATE_LETTER = 3;

    private final Mail mail;
    private final Forest forest;

    public Threadline() {
        mail = new Mail();
        forest = new Forest(mail);
    }

    // ---- letters

    public int letter(int id, int grandparent, int parent, int subject, int day, int person)
            throws IllegalArgumentException, IllegalStateException {
        requireId(id);
        requireTold(grandparent, parent);
        requireBelow(subject, 2 * SUBJECTS);
        requireBelow(day, DAYS);
        requireBelow(person, PEOPLE);
        if (mail.holds(id)) {
            throw new IllegalStateException("there is a letter with this id");
        }
        mail.put(id, grandparent, parent, subject, day, person);
        forest.grow();
        return forest.countRoots();
    }

    public int delete(int id) throws IllegalArgumentException, IllegalStateException {
        requireLetter(id);
        mail.drop(id);
        forest.grow();
        return forest.countRoots();
    }

    public int split(int id) throws IllegalArgumentException, IllegalStateException {
        requireLetter(id);
        int before = forest.parentIn(id);
        mail.setHand(id, SPLIT);
        forest.grow();
        return before;
    }

    public int join(int id, int parent) throws IllegalArgumentException, IllegalStateException {
        requireId(id);
        requireId(parent);
        if (id == parent) {
            throw new IllegalArgumentException("a letter is joined to another one");
        }
        requireLetter(id);
        requireLetter(parent);
        if (forest.isInTree(parent, id)) {
            throw new IllegalStateException("the other letter is in the tree of this one");
        }
        mail.setHand(id, parent);
        forest.grow();
        return forest.parentIn(id);
    }

    public boolean release(int id) throws IllegalArgumentException, IllegalStateException {
        requireLetter(id);
        boolean touched = mail.handOf(id) != UNTOUCHED;
        mail.setHand(id, UNTOUCHED);
        forest.grow();
        return touched;
    }

    public int read(int id) throws IllegalArgumentException, IndexOutOfBoundsException {
        requireInForest(id);
        int count = 0;
        for (int place = 0; place < IDS; place++) {
            if (mail.markRead(forest.idAt(id, place))) {
                count++;
            }
        }
        return count;
    }

    // ---- the forest

    public int state(int id) throws IllegalArgumentException {
        requireId(id);
        if (mail.holds(id)) {
            return STATE_LETTER;
        }
        if (forest.contains(id)) {
            return STATE_GUESSED;
        }
        return forest.knows(id) ? STATE_OUTSIDE : STATE_UNKNOWN;
    }

    public int parent(int id) throws IllegalArgumentException, IndexOutOfBoundsException {
        requireInForest(id);
        return forest.parentIn(id);
    }

    public int children(int id) throws IllegalArgumentException, IndexOutOfBoundsException {
        requireInForest(id);
        return forest.countChildren(id);
    }

    public int roots() {
        return forest.countRoots();
    }

    public int root(int place) throws IndexOutOfBoundsException {
        int found = forest.rootIdAt(place);
        if (found == NONE) {
            throw new IndexOutOfBoundsException("there is no such root");
        }
        return found;
    }

    public int inTree(int id, int place) throws IllegalArgumentException, IndexOutOfBoundsException {
        requireInForest(id);
        int found = forest.idAt(id, place);
        if (found == NONE) {
            throw new IndexOutOfBoundsException("there is no such place in the tree");
        }
        return found;
    }

    public int depth(int id) throws IllegalArgumentException, IndexOutOfBoundsException {
        requireInForest(id);
        return forest.stepsToRoot(id);
    }

    // ---- summaries of the tree of an id

    public int letters(int id) throws IllegalArgumentException, IndexOutOfBoundsException {
        requireInForest(id);
        int count = 0;
        for (int place = 0; place < IDS; place++) {
            if (mail.holds(forest.idAt(id, place))) {
                count++;
            }
        }
        return count;
    }

    public int unread(int id) throws IllegalArgumentException, IndexOutOfBoundsException {
        requireInForest(id);
        int count = 0;
        for (int place = 0; place < IDS; place++) {
            if (mail.isUnread(forest.idAt(id, place))) {
                count++;
            }
        }
        return count;
    }

    public int people(int id) throws IllegalArgumentException, IndexOutOfBoundsException {
        requireInForest(id);
        int writers = 0;
        for (int place = 0; place < IDS; place++) {
            writers |= mail.writerBit(forest.idAt(id, place));
        }
        return writers;
    }

    public int latest(int id) throws IllegalArgumentException, IndexOutOfBoundsException {
        requireInForest(id);
        int last = NONE;
        for (int place = 0; place < IDS; place++) {
            int at = forest.idAt(id, place);
            if (mail.holds(at)) {
                last = Math.max(last, mail.dayOf(at));
            }
        }
        return last;
    }

    // ---- what calls require

    private static boolean isId(int number) {
        return number >= 0 && number < IDS;
    }

    private static void requireId(int id) {
        if (!isId(id)) {
            throw new IllegalArgumentException("an id is out of range");
        }
    }

    private static void requireTold(int grandparent, int parent) {
        if (grandparent != NONE) {
            requireId(grandparent);
        }
        if (parent != NONE) {
            requireId(parent);
        }
        if (grandparent != NONE && parent == NONE) {
            throw new IllegalArgumentException("a grandparent is told without a parent");
        }
    }

    private static void requireBelow(int number, int bound) {
        if (number < 0 || number >= bound) {
            throw new IllegalArgumentException("a subject, day or person is out of range");
        }
    }

    private void requireLetter(int id) {
        requireId(id);
        if (!mail.holds(id)) {
            throw new IllegalStateException("there is no letter with this id");
        }
    }

    private void requireInForest(int id) {
        requireId(id);
        if (!forest.contains(id)) {
            throw new IndexOutOfBoundsException("the id is not in the forest");
        }
    }

    /** The letters that are there, and what was done with them. The rows of an id without a letter mean nothing. */
    private static final class Mail {
        private final boolean[] there = new boolean[IDS];
        private final int[] toldGrandparent = new int[IDS];
        private final int[] toldParent = new int[IDS];
        private final int[] subject = new int[IDS];
        private final boolean[] reply = new boolean[IDS];
        private final int[] day = new int[IDS];
        private final int[] person = new int[IDS];
        private final boolean[] unseen = new boolean[IDS];
        private final int[] hand = new int[IDS];

        private boolean holds(int id) {
            return id >= 0 && id < IDS && there[id];
        }

        private void put(int id, int grandparent, int parent, int subjectAndReply, int sent, int writer) {
            if (!isId(id)) {
                return;
            }
            there[id] = true;
            toldGrandparent[id] = grandparent;
            toldParent[id] = parent;
            reply[id] = subjectAndReply >= SUBJECTS;
            subject[id] = reply[id] ? subjectAndReply - SUBJECTS : subjectAndReply;
            day[id] = sent;
            person[id] = writer;
            unseen[id] = true;
            hand[id] = UNTOUCHED;
        }

        private void drop(int id) {
            if (isId(id)) {
                there[id] = false;
            }
        }

        private void setHand(int id, int what) {
            if (holds(id)) {
                hand[id] = what;
            }
        }

        private int handOf(int id) {
            return holds(id) ? hand[id] : UNTOUCHED;
        }

        private boolean isUnread(int id) {
            return holds(id) && unseen[id];
        }

        /** Answers whether the letter was unread before. */
        private boolean markRead(int id) {
            if (!isUnread(id)) {
                return false;
            }
            unseen[id] = false;
            return true;
        }

        private int writerBit(int id) {
            return holds(id) ? 1 << person[id] : 0;
        }

        private int dayOf(int id) {
            return holds(id) ? day[id] : DAYS;
        }

        private int parentToldBy(int id) {
            return holds(id) ? toldParent[id] : NONE;
        }

        private int grandparentToldBy(int id) {
            return holds(id) ? toldGrandparent[id] : NONE;
        }

        /** The told parent of an id, as the document's terms have it: by hand, by the letter, or guessed. */
        private int toldParentOf(int id) {
            if (!holds(id)) {
                return guessedParentOf(id);
            }
            int byHand = handOf(id);
            if (byHand == UNTOUCHED) {
                return parentToldBy(id);
            }
            return byHand == SPLIT ? NONE : byHand;
        }

        private int guessedParentOf(int missing) {
            for (int id = 0; id < IDS; id++) {
                if (parentToldBy(id) == missing && grandparentToldBy(id) != NONE) {
                    return grandparentToldBy(id);
                }
            }
            return NONE;
        }

        private boolean isReply(int id) {
            return holds(id) && reply[id];
        }

        private boolean isAnsweredBy(int first, int answer) {
            if (!holds(first) || !holds(answer) || reply[first] || !reply[answer]) {
                return false;
            }
            int daysBetween = day[answer] - day[first];
            return subject[first] == subject[answer] && daysBetween >= 0 && daysBetween <= REPLY_DAYS;
        }
    }

    /** What follows from the mail: found anew after each change, so that it depends on nothing but the mail. */
    private static final class Forest {
        private final Mail mail;
        private final boolean[] known = new boolean[IDS];
        private final int[] link = new int[IDS];
        private final int[] parentOf = new int[IDS];
        private final boolean[] standing = new boolean[IDS];
        private final int[] earliest = new int[IDS];
        /** The day by which an id stands among its siblings, or a root among the roots. */
        private final int[] turn = new int[IDS];
        private final int[] size = new int[IDS];
        private final int[] offset = new int[IDS];
        private final int[] start = new int[IDS];
        /** The whole forest, tree after tree, so that each tree is one run in it: size ids from its start. */
        private final int[] order = new int[IDS];
        private final int[] rootRow = new int[IDS];
        private int rootCount;

        private Forest(Mail mail) {
            this.mail = mail;
        }

        private boolean knows(int id) {
            return isId(id) && known[id];
        }

        private boolean contains(int id) {
            return isId(id) && standing[id];
        }

        private int parentIn(int id) {
            return contains(id) ? parentOf[id] : NONE;
        }

        private int countRoots() {
            return rootCount;
        }

        private int rootIdAt(int place) {
            return isId(place) && place < rootCount ? rootRow[place] : NONE;
        }

        private int countChildren(int id) {
            int count = 0;
            for (int child = 0; child < IDS; child++) {
                if (parentOf[child] == id) {
                    count++;
                }
            }
            return count;
        }

        private int idAt(int id, int place) {
            if (!contains(id) || place < 0 || place >= size[id]) {
                return NONE;
            }
            int spot = start[id] + place;
            return isId(spot) ? order[spot] : NONE;
        }

        private int stepsToRoot(int id) {
            int steps = 0;
            int at = parentIn(id);
            while (isId(at) && steps < IDS) {
                steps++;
                at = parentIn(at);
            }
            return steps;
        }

        private boolean isInTree(int id, int top) {
            int at = id;
            for (int steps = 0; isId(at) && steps < IDS; steps++) {
                if (at == top) {
                    return true;
                }
                at = parentIn(at);
            }
            return false;
        }

        private void grow() {
            findKnown();
            linkKnown();
            hangByLinks();
            keepMissing();
            hangReplies();
            measureTrees();
            placeRoots();
            placeTrees();
        }

        private void findKnown() {
            for (int id = 0; id < IDS; id++) {
                known[id] = mail.holds(id);
            }
            for (int id = 0; id < IDS; id++) {
                learn(mail.parentToldBy(id));
                learn(mail.grandparentToldBy(id));
                learn(mail.handOf(id));
            }
        }

        private void learn(int id) {
            if (isId(id)) {
                known[id] = true;
            }
        }

        private void linkKnown() {
            for (int id = 0; id < IDS; id++) {
                link[id] = NONE;
            }
            for (int id = 0; id < IDS; id++) {
                if (known[id]) {
                    int told = mail.toldParentOf(id);
                    link[id] = linksLead(told, id) ? NONE : told;
                }
            }
        }

        /** True for one and the same id too: neither may be linked. */
        private boolean linksLead(int from, int to) {
            int at = from;
            for (int steps = 0; isId(at) && steps < IDS; steps++) {
                if (at == to) {
                    return true;
                }
                at = link[at];
            }
            return false;
        }

        private void hangByLinks() {
            for (int id = 0; id < IDS; id++) {
                parentOf[id] = mail.holds(id) ? parentByLinks(link[id]) : NONE;
            }
        }

        /** Passes over the missing ids that are linked themselves. */
        private int parentByLinks(int linked) {
            int at = linked;
            for (int steps = 0; isId(at) && steps < IDS; steps++) {
                if (mail.holds(at) || link[at] == NONE) {
                    return at;
                }
                at = link[at];
            }
            return NONE;
        }

        private void keepMissing() {
            for (int id = 0; id < IDS; id++) {
                standing[id] = mail.holds(id) || countChildren(id) >= 2;
                if (!standing[id]) {
                    freeChildren(id);
                }
            }
        }

        private void freeChildren(int id) {
            for (int child = 0; child < IDS; child++) {
                if (parentOf[child] == id) {
                    parentOf[child] = NONE;
                }
            }
        }

        /** No reply becomes a parent here, so the ones hung before change nothing for the ones after. */
        private void hangReplies() {
            for (int id = 0; id < IDS; id++) {
                if (mail.isReply(id) && parentOf[id] == NONE && mail.handOf(id) != SPLIT) {
                    parentOf[id] = letterAnsweredBy(id);
                }
            }
        }

        private int letterAnsweredBy(int answer) {
            int best = NONE;
            for (int id = 0; id < IDS; id++) {
                boolean fits = parentOf[id] == NONE && mail.isAnsweredBy(id, answer);
                if (fits && (best == NONE || mail.dayOf(id) > mail.dayOf(best))) {
                    best = id;
                }
            }
            return best;
        }

        private void measureTrees() {
            for (int id = 0; id < IDS; id++) {
                size[id] = 0;
                earliest[id] = DAYS;
            }
            for (int id = 0; id < IDS; id++) {
                if (standing[id]) {
                    countUpwards(id);
                }
            }
            for (int id = 0; id < IDS; id++) {
                turn[id] = parentOf[id] == NONE ? earliest[id] : mail.dayOf(id);
            }
        }

        private void countUpwards(int id) {
            int sent = mail.dayOf(id);
            int at = id;
            for (int steps = 0; isId(at) && steps < IDS; steps++) {
                size[at]++;
                earliest[at] = Math.min(earliest[at], sent);
                at = parentOf[at];
            }
        }

        /** Siblings, or two roots: no others are in one row. */
        private boolean comesBefore(int first, int second) {
            if (!contains(first) || !contains(second) || parentOf[first] != parentOf[second]) {
                return false;
            }
            return turn[first] < turn[second] || (turn[first] == turn[second] && first < second);
        }

        private void placeRoots() {
            rootCount = 0;
            for (int id = 0; id < IDS; id++) {
                if (standing[id] && parentOf[id] == NONE) {
                    placeRoot(id);
                    rootCount++;
                }
            }
        }

        private void placeRoot(int id) {
            int place = 0;
            for (int other = 0; other < IDS; other++) {
                if (comesBefore(other, id)) {
                    place++;
                }
            }
            if (isId(place)) {
                rootRow[place] = id;
            }
        }

        private void placeTrees() {
            for (int id = 0; id < IDS; id++) {
                offset[id] = offsetBehindParent(id);
            }
            for (int id = 0; id < IDS; id++) {
                start[id] = startInOrder(id);
                if (standing[id] && isId(start[id])) {
                    order[start[id]] = id;
                }
            }
        }

        /** How far a tree starts behind its parent's start, or a root's behind the start of all. */
        private int offsetBehindParent(int id) {
            int behind = parentIn(id) == NONE ? 0 : 1;
            for (int other = 0; other < IDS; other++) {
                if (comesBefore(other, id)) {
                    behind += size[other];
                }
            }
            return behind;
        }

        private int startInOrder(int id) {
            int sum = 0;
            int at = id;
            for (int steps = 0; isId(at) && steps < IDS; steps++) {
                sum += offset[at];
                at = parentOf[at];
            }
            return sum;
        }
    }
}
