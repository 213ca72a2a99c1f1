import java.util.ArrayList;
import java.util.Comparator;
import java.util.List;
import java.util.Map;
import java.util.TreeMap;
import java.util.TreeSet;

/** The document's words once more, in another shape: all is found anew, from the letters, for each question. */
final class Model {
    static final class Letter {
        Integer grandparent;
        Integer parent;
        int subject;
        boolean reply;
        int day;
        int person;
        boolean unread = true;
        boolean split;
        Integer joined;
    }

    private final TreeMap<Integer, Letter> box = new TreeMap<>();
    /** The forest: each id in it, with its parent or null. */
    private TreeMap<Integer, Integer> forest = new TreeMap<>();
    private TreeSet<Integer> known = new TreeSet<>();

    int letter(int id, int grandparent, int parent, int subject, int day, int person) {
        boolean good = isId(id) && (grandparent == -1 || isId(grandparent)) && (parent == -1 || isId(parent));
        good = good && within(subject, 19) && within(day, 999) && within(person, 9);
        argument(good && !(grandparent != -1 && parent == -1));
        state(!box.containsKey(id));
        Letter it = new Letter();
        it.grandparent = grandparent == -1 ? null : (Integer) grandparent;
        it.parent = parent == -1 ? null : (Integer) parent;
        it.subject = subject % 10;
        it.reply = subject / 10 == 1;
        it.day = day;
        it.person = person;
        box.put(id, it);
        return renewed().roots();
    }

    int delete(int id) {
        there(id);
        box.remove(id);
        return renewed().roots();
    }

    int split(int id) {
        Letter it = there(id);
        int before = parent(id);
        it.joined = null;
        it.split = true;
        renewed();
        return before;
    }

    int join(int id, int parent) {
        argument(isId(id) && isId(parent) && id != parent);
        Letter it = there(id);
        there(parent);
        state(!treeOf(id).contains(parent));
        it.split = false;
        it.joined = parent;
        renewed();
        return parent(id);
    }

    boolean release(int id) {
        Letter it = there(id);
        boolean something = it.split || it.joined != null;
        it.split = false;
        it.joined = null;
        renewed();
        return something;
    }

    int read(int id) {
        int count = unread(id);
        lettersOf(id).forEach(letter -> letter.unread = false);
        return count;
    }

    int state(int id) {
        argument(isId(id));
        return box.containsKey(id) ? 3 : forest.containsKey(id) ? 2 : known.contains(id) ? 1 : 0;
    }

    int parent(int id) {
        inside(id);
        return forest.get(id) == null ? -1 : forest.get(id);
    }

    int children(int id) {
        inside(id);
        return childrenOf(id).size();
    }

    int roots() {
        return rootsInOrder().size();
    }

    int root(int place) {
        return at(rootsInOrder(), place);
    }

    int inTree(int id, int place) {
        inside(id);
        return at(treeOf(id), place);
    }

    int depth(int id) {
        inside(id);
        return forest.get(id) == null ? 0 : 1 + depth(forest.get(id));
    }

    int letters(int id) {
        inside(id);
        return lettersOf(id).size();
    }

    int unread(int id) {
        inside(id);
        return (int) lettersOf(id).stream().filter(letter -> letter.unread).count();
    }

    int people(int id) {
        inside(id);
        return lettersOf(id).stream().mapToInt(letter -> 1 << letter.person).reduce(0, (a, b) -> a | b);
    }

    int latest(int id) {
        inside(id);
        return lettersOf(id).stream().mapToInt(letter -> letter.day).max().getAsInt();
    }

    private Model renewed() {
        known = findKnown();
        Map<Integer, Integer> links = findLinks();
        TreeMap<Integer, Integer> found = new TreeMap<>();
        for (int id : box.keySet()) {
            Integer above = links.get(id);
            while (above != null && !box.containsKey(above) && links.get(above) != null) {
                above = links.get(above);
            }
            found.put(id, above);
        }
        for (int id : known) {
            if (!box.containsKey(id)) {
                settleMissing(found, id);
            }
        }
        joinReplies(found);
        forest = found;
        return this;
    }

    private static void settleMissing(TreeMap<Integer, Integer> found, int missing) {
        List<Integer> below = new ArrayList<>();
        found.forEach((id, above) -> {
            if (above != null && above == missing) {
                below.add(id);
            }
        });
        if (below.size() == 1) {
            found.put(below.get(0), null);
        } else if (below.size() > 1) {
            found.put(missing, null);
        }
    }

    private TreeSet<Integer> findKnown() {
        TreeSet<Integer> all = new TreeSet<>(box.keySet());
        for (Letter letter : box.values()) {
            for (Integer other : new Integer[] {letter.parent, letter.grandparent, letter.joined}) {
                if (other != null) {
                    all.add(other);
                }
            }
        }
        return all;
    }

    private Integer toldParent(int id) {
        Letter letter = box.get(id);
        if (letter != null) {
            return letter.split ? null : letter.joined != null ? letter.joined : letter.parent;
        }
        return box.values().stream()
            .filter(teller -> teller.parent != null && teller.parent == id && teller.grandparent != null)
            .map(teller -> teller.grandparent).findFirst().orElse(null);
    }

    private Map<Integer, Integer> findLinks() {
        Map<Integer, Integer> links = new TreeMap<>();
        for (int id : known) {
            Integer told = toldParent(id);
            if (told != null && !wayUp(links, told).contains(id)) {
                links.put(id, told);
            }
        }
        return links;
    }

    private static List<Integer> wayUp(Map<Integer, Integer> links, Integer from) {
        List<Integer> way = new ArrayList<>();
        for (Integer at = from; at != null; at = links.get(at)) {
            way.add(at);
        }
        return way;
    }

    private void joinReplies(TreeMap<Integer, Integer> found) {
        List<Integer> alone = new ArrayList<>();
        found.forEach((id, above) -> {
            if (above == null && box.containsKey(id)) {
                alone.add(id);
            }
        });
        for (int id : alone) {
            Letter reply = box.get(id);
            if (reply.reply && !reply.split) {
                alone.stream().filter(other -> fits(box.get(other), reply))
                    .max(Comparator.<Integer>comparingInt(other -> box.get(other).day).thenComparing(other -> -other))
                    .ifPresent(best -> found.put(id, best));
            }
        }
    }

    private static boolean fits(Letter first, Letter reply) {
        return !first.reply && first.subject == reply.subject && first.day <= reply.day && first.day >= reply.day - 14;
    }

    private List<Integer> childrenOf(int id) {
        List<Integer> below = new ArrayList<>();
        forest.forEach((child, above) -> {
            if (above != null && above == id) {
                below.add(child);
            }
        });
        below.sort(Comparator.<Integer>comparingInt(child -> box.get(child).day).thenComparing(child -> child));
        return below;
    }

    private List<Integer> rootsInOrder() {
        List<Integer> all = new ArrayList<>();
        forest.forEach((id, above) -> {
            if (above == null) {
                all.add(id);
            }
        });
        all.sort(Comparator.<Integer>comparingInt(this::earliest).thenComparing(id -> id));
        return all;
    }

    private int earliest(int id) {
        return lettersOf(id).stream().mapToInt(letter -> letter.day).min().getAsInt();
    }

    private List<Integer> treeOf(int id) {
        List<Integer> tree = new ArrayList<>(List.of(id));
        childrenOf(id).forEach(child -> tree.addAll(treeOf(child)));
        return tree;
    }

    private List<Letter> lettersOf(int id) {
        return treeOf(id).stream().filter(box::containsKey).map(box::get).toList();
    }

    private static int at(List<Integer> list, int place) {
        if (place < 0 || place >= list.size()) {
            throw new IndexOutOfBoundsException();
        }
        return list.get(place);
    }

    private static boolean isId(int id) {
        return within(id, 29);
    }

    private static boolean within(int number, int last) {
        return number >= 0 && number <= last;
    }

    private static void argument(boolean good) {
        if (!good) {
            throw new IllegalArgumentException();
        }
    }

    private static void state(boolean good) {
        if (!good) {
            throw new IllegalStateException();
        }
    }

    private Letter there(int id) {
        argument(isId(id));
        state(box.containsKey(id));
        return box.get(id);
    }

    private void inside(int id) {
        argument(isId(id));
        if (!forest.containsKey(id)) {
            throw new IndexOutOfBoundsException();
        }
    }
}
