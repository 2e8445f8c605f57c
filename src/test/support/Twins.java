import java.util.function.ToLongFunction;

/**
 * Queues that are made alike, of which one gets a call that must change nothing. They are compared
 * in all that can be asked, then in what comes of them: in cycles, in undoing, and in their input.
 */
final class Twins {
    private static final int FUTURE = 12;
    private static final int MORE_THAN_ALL_CHANGES = 10;

    private Twins() {
    }

    interface Maker {
        HardwareTaskQueue make();
    }

    interface Act {
        void on(HardwareTaskQueue queue);
    }

    static void index(String what, Maker maker, Act act) {
        refused(what, IndexOutOfBoundsException.class, maker, act);
    }

    static void argument(String what, Maker maker, Act act) {
        refused(what, IllegalArgumentException.class, maker, act);
    }

    static void state(String what, Maker maker, Act act) {
        refused(what, IllegalStateException.class, maker, act);
    }

    private static void refused(String what, Class<? extends RuntimeException> due, Maker maker,
            Act act) {
        unchanged(what, maker, queue -> Check.throwing(what, due, () -> act.on(queue)), true);
    }

    /** A call that answers and changes nothing. */
    static void answered(String what, long due, Maker maker, ToLongFunction<HardwareTaskQueue> call) {
        unchanged(what, maker, queue -> Check.equal(what, call.applyAsLong(queue), due), true);
    }

    /** A load that finds an error changes the input buffer and the error offset alone. */
    static void loadError(Maker maker, String text, int code, int offset) {
        String what = "load of '" + text + "'";
        unchanged(what, maker, queue -> {
            emptyBuffer(queue);
            Check.equal(what, Check.load(queue, text), code);
            Check.equal("errorOffset after " + what, queue.errorOffset(), offset);
            Check.equal("append after " + what, queue.append(0, 0, 0, 0, 0), 20);
        }, false);
    }

    private static void emptyBuffer(HardwareTaskQueue queue) {
        Check.equal("an empty text", queue.load(0), HardwareTaskQueue.SYNTAX_ERROR);
    }

    private static void unchanged(String what, Maker maker, Act act, boolean input) {
        HardwareTaskQueue touched = made(maker, act);
        HardwareTaskQueue other = maker.make();
        Check.equal("what can be asked after " + what, sight(touched), sight(other));
        Check.equal("the cycles after " + what, future(touched), future(other));
        Check.equal("undo after " + what, past(made(maker, act)), past(maker.make()));
        if (input) {
            Check.equal("errorOffset after " + what, made(maker, act).errorOffset(),
                    maker.make().errorOffset());
            Check.equal("the input buffer after " + what, buffer(made(maker, act)),
                    buffer(maker.make()));
        }
    }

    private static HardwareTaskQueue made(Maker maker, Act act) {
        HardwareTaskQueue queue = maker.make();
        act.on(queue);
        return queue;
    }

    /** All that can be asked without a change, but for the error offset. */
    static String sight(HardwareTaskQueue q) {
        StringBuilder seen = new StringBuilder();
        add(seen, q.clock(), q.finished(), q.criticalPath(), q.checksum(), q.finishTime(500));
        for (int t = 0; t < q.taskCount(); t++) {
            add(seen, q.state(t), q.counter(t), q.priority(t), q.coreOf(t), q.doneAt(t));
        }
        for (int f = 0; f < q.fenceCount(); f++) {
            add(seen, q.isOpen(f) ? 1 : 0);
        }
        for (int c = 0; c < q.coreCount(); c++) {
            add(seen, q.running(c), q.remaining(c), q.busy(c), q.steals(c), q.isPaused(c) ? 1 : 0);
            for (int k = 0; k < q.queueLength(c); k++) {
                add(seen, q.queued(c, k));
            }
            add(seen, q.timeOn(c + 1, 500));
        }
        return seen.toString();
    }

    private static void add(StringBuilder seen, long... numbers) {
        for (long number : numbers) {
            seen.append(number).append(' ');
        }
        seen.append('/');
    }

    private static String future(HardwareTaskQueue q) {
        StringBuilder seen = new StringBuilder();
        for (int i = 0; i < FUTURE && q.coreCount() > 0 && q.clock() < 100000; i++) {
            add(seen, q.run(1));
            seen.append(sight(q));
        }
        return seen.toString();
    }

    private static String past(HardwareTaskQueue q) {
        StringBuilder seen = new StringBuilder();
        for (int i = 0; i < MORE_THAN_ALL_CHANGES; i++) {
            add(seen, q.undo());
            seen.append(sight(q));
        }
        return seen.toString();
    }

    private static String buffer(HardwareTaskQueue q) {
        StringBuilder seen = new StringBuilder();
        int size = q.append(1, 2, 3, 4, 5);
        add(seen, size);
        add(seen, q.load(size < 0 ? 900 : size - 20), q.errorOffset());
        return seen.append(sight(q)).toString();
    }
}
