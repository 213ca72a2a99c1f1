import java.util.ArrayList;
import java.util.List;
import java.util.function.Supplier;

/** Long runs of calls, each answered by the program and by the model of the document. */
final class ModelTest {
    private static final Checks CHECKS = new Checks("ModelTest");
    private static final int RUNS = 144;
    private static final int CALLS = 512;

    private long seed;
    private final int ids;
    private final int subjects;
    private final int days;
    private final int toldInTen;
    private final Threadline line = new Threadline();
    private final Model model = new Model();
    private final List<String> calls = new ArrayList<>();

    private ModelTest(int run) {
        seed = run;
        ids = new int[] {4, 8, 15, 30}[run % 4];
        subjects = new int[] {1, 2, 10}[run / 4 % 3];
        days = new int[] {3, 40, 100, 1000}[run / 12 % 4];
        toldInTen = new int[] {3, 7, 10}[run / 48 % 3];
    }

    public static void main(String[] args) {
        for (int run = 0; run < RUNS && !CHECKS.anyBroken(); run++) {
            new ModelTest(run).run();
        }
        CHECKS.finish();
    }

    private void run() {
        for (int call = 0; call < CALLS && !CHECKS.anyBroken(); call++) {
            if (change()) {
                compareAll();
            }
        }
    }

    /** Numbers of a row that is always the same: a test must fail again when it is run again. */
    private int below(int bound) {
        seed = seed * 6364136223846793005L + 1442695040888963407L;
        return (int) ((seed >>> 33) % bound);
    }

    private int someId() {
        return below(60) == 0 ? below(70) - 20 : below(ids);
    }

    private int toldId() {
        return below(10) < toldInTen ? someId() : -1;
    }

    private boolean change() {
        int kind = below(20);
        int id = someId();
        int other = someId();
        if (kind < 9) {
            return changeByLetter(id);
        }
        switch (kind) {
            case 9: case 10: case 11:
                return same("delete(" + id + ")", () -> (Object) line.delete(id), () -> model.delete(id));
            case 12: case 13:
                return same("split(" + id + ")", () -> line.split(id), () -> model.split(id));
            case 14: case 15: case 16:
                return same("join(" + id + ", " + other + ")", () -> line.join(id, other), () -> model.join(id, other));
            case 17: case 18:
                return same("release(" + id + ")", () -> line.release(id), () -> model.release(id));
            default:
                return same("read(" + id + ")", () -> line.read(id), () -> model.read(id));
        }
    }

    private boolean changeByLetter(int id) {
        int parent = toldId();
        int grandparent = parent == -1 && below(20) > 0 ? -1 : toldId();
        int subject = below(60) == 0 ? below(50) - 15 : below(subjects) + 10 * below(2);
        int day = below(60) == 0 ? below(3000) - 1000 : below(days);
        int person = below(60) == 0 ? below(30) - 10 : below(10);
        String told = id + ", " + grandparent + ", " + parent;
        String call = "letter(" + told + ", " + subject + ", " + day + ", " + person + ")";
        return same(call, () -> line.letter(id, grandparent, parent, subject, day, person),
            () -> model.letter(id, grandparent, parent, subject, day, person));
    }

    private void compareAll() {
        ask("roots()", line::roots, model::roots);
        for (int place = -1; place < 31; place++) {
            int it = place;
            ask("root(" + it + ")", () -> line.root(it), () -> model.root(it));
        }
        for (int id = -1; id < 31; id++) {
            compareId(id);
        }
    }

    private void compareId(int id) {
        ask("state(" + id + ")", () -> line.state(id), () -> model.state(id));
        ask("parent(" + id + ")", () -> line.parent(id), () -> model.parent(id));
        ask("children(" + id + ")", () -> line.children(id), () -> model.children(id));
        ask("depth(" + id + ")", () -> line.depth(id), () -> model.depth(id));
        ask("letters(" + id + ")", () -> line.letters(id), () -> model.letters(id));
        ask("unread(" + id + ")", () -> line.unread(id), () -> model.unread(id));
        ask("people(" + id + ")", () -> line.people(id), () -> model.people(id));
        ask("latest(" + id + ")", () -> line.latest(id), () -> model.latest(id));
        int places = id < 0 || id > 29 || line.state(id) < 2 ? 1 : line.letters(id) + 2;
        for (int place = -1; place <= places; place++) {
            int it = place;
            ask("inTree(" + id + ", " + it + ")", () -> line.inTree(id, it), () -> model.inTree(id, it));
        }
    }

    private boolean same(String call, Supplier<Object> got, Supplier<Object> want) {
        calls.add(call);
        return ask(call, got, want);
    }

    /** Answers whether the call was taken. */
    private boolean ask(String call, Supplier<Object> got, Supplier<Object> want) {
        Object due = answer(want);
        Object given = answer(got);
        boolean holds = given.equals(due);
        // The text of a fault tells all calls: made for each check, it would take most of the time.
        CHECKS.note(holds, holds ? "" : call + " answered " + given + ", due is " + due + ", after " + calls);
        return !(due instanceof Class);
    }

    private static Object answer(Supplier<Object> call) {
        try {
            return call.get();
        } catch (RuntimeException e) {
            return e.getClass();
        }
    }
}
