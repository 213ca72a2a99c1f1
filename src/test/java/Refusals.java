import java.util.function.Consumer;
import java.util.function.Supplier;

/** Calls that are refused: the exception that is due, and behind it an object like one that was never called so. */
final class Refusals {
    private static final int IDS = 30;

    private final Checks checks;
    private final String name;
    private final Supplier<Threadline> maker;
    private final String rising;
    private final String falling;

    Refusals(Checks checks, String name, Supplier<Threadline> maker) {
        this.checks = checks;
        this.name = name;
        this.maker = maker;
        rising = future(maker.get(), true);
        falling = future(maker.get(), false);
    }

    void illegalArgument(String what, Consumer<Threadline> call) {
        Threadline first = maker.get();
        Threadline second = maker.get();
        checks.illegalArgument(name + ": " + what, () -> call.accept(first));
        checks.illegalArgument(name + ": " + what, () -> call.accept(second));
        nothingChanged(what, first, second);
    }

    void illegalState(String what, Consumer<Threadline> call) {
        Threadline first = maker.get();
        Threadline second = maker.get();
        checks.illegalState(name + ": " + what, () -> call.accept(first));
        checks.illegalState(name + ": " + what, () -> call.accept(second));
        nothingChanged(what, first, second);
    }

    void outOfBounds(String what, Consumer<Threadline> call) {
        Threadline first = maker.get();
        Threadline second = maker.get();
        checks.outOfBounds(name + ": " + what, () -> call.accept(first));
        checks.outOfBounds(name + ": " + what, () -> call.accept(second));
        nothingChanged(what, first, second);
    }

    /** Two ways on, since the first call of each could hide what was changed with its own letter. */
    private void nothingChanged(String what, Threadline first, Threadline second) {
        checks.equal(name + ": behind " + what, future(first, true), rising);
        checks.equal(name + ": behind " + what, future(second, false), falling);
    }

    /** What an object answers now, and while all letters are released and deleted: that shows what was done by hand. */
    private static String future(Threadline line, boolean upwards) {
        StringBuilder text = new StringBuilder(Snapshot.of(line));
        for (int step = 0; step < IDS; step++) {
            int id = upwards ? step : IDS - 1 - step;
            if (line.state(id) == 3) {
                text.append("\nrelease ").append(id).append(' ').append(line.release(id));
                text.append(": ").append(Snapshot.of(line));
            }
        }
        for (int step = 0; step < IDS; step++) {
            int id = upwards ? step : IDS - 1 - step;
            if (line.state(id) == 3) {
                text.append("\ndelete ").append(id).append(' ').append(line.delete(id));
                text.append(": ").append(Snapshot.of(line));
            }
        }
        return text.toString();
    }
}
