import java.math.BigInteger;
import java.util.ArrayList;
import java.util.List;

/** The edges that "Changes" and promises 32 and 33 name: what a change is, undo and checksum. */
public final class EdgeUndoTest {
    private static final int CALLS = 512;

    public static void main(String[] args) {
        eachChange();
        noChange();
        latestEight();
        roundTheRing();
        noneToUndo();
        undoneOnesAreGone();
        beforeFirstLoad();
        inputNotAffected();
        eachIsUndoneWhole();
        crowdedIsUndone();
        throwsChangeNothing();
        emptyChecksum();
        orderOfChecksum();
        overflowOfChecksum();
        checksumOfAll();
        manyCalls();
        Check.end();
    }

    /** The changes, each on a queue as Makers.busy() makes it. */
    private static List<Twins.Act> changes() {
        return List.of(q -> q.load(40), q -> q.run(1), q -> q.submit(5, 5, 0),
                q -> q.depend(Makers.WAITING, 0), q -> q.cancel(Makers.WAITING),
                q -> q.setPriority(Makers.READY, 9), q -> q.pause(0, true),
                q -> q.run(200), q -> q.cancel(Makers.QUEUED), q -> q.cancel(Makers.READY),
                q -> q.setPriority(Makers.DONE, 9), q -> q.pause(1, true));
    }

    private static void eachChange() {
        Check.about("The changing methods are load (when it succeeds), run, submit, depend, cancel,"
                + " setPriority and pause.");
        for (Twins.Act change : changes()) {
            HardwareTaskQueue q = Makers.busy();
            String before = Twins.sight(q);
            change.on(q);
            Check.equal("there is one change more to undo", q.undo(), 4);
            Check.equal("all is as it was", Twins.sight(q), before);
            Check.equal("the change before it", q.undo(), 3);
        }
    }

    private static void noChange() {
        Check.about("The changing methods are load (when it succeeds), ...");
        List<Twins.Act> others = List.of(q -> q.append(1, 2, 3, 4, 5), q -> q.load(0),
                q -> q.load(3), q -> q.errorOffset(), q -> q.coreCount(), q -> q.taskCount(),
                q -> q.fenceCount(), q -> q.clock(), q -> q.state(0), q -> q.counter(0),
                q -> q.priority(0), q -> q.coreOf(0), q -> q.doneAt(0), q -> q.isOpen(0),
                q -> q.queueLength(0), q -> q.queued(1, 0), q -> q.running(0), q -> q.remaining(0),
                q -> q.busy(0), q -> q.steals(0), q -> q.isPaused(0), q -> q.finished(),
                q -> q.criticalPath(), q -> q.finishTime(500), q -> q.timeOn(4, 500),
                q -> q.checksum());
        for (Twins.Act act : others) {
            HardwareTaskQueue q = Makers.busy();
            String before = Twins.sight(q);
            act.on(q);
            Check.equal("no data are changed", Twins.sight(q), before);
            Check.equal("four changes still", q.undo(), 3);
        }
    }

    /** A queue with this number of changes, the first being its load and each other a cycle. */
    private static HardwareTaskQueue changed(int changes) {
        HardwareTaskQueue q = new HardwareTaskQueue();
        if (changes > 0) {
            Check.load(q, "queue 2 8 1;task 5 1;task 9 2 core 0;");
        }
        for (int i = 1; i < changes; i++) {
            q.run(1);
        }
        return q;
    }

    private static void latestEight() {
        Check.about("The latest 8 changes that have not been undone can be undone, the latest one"
                + " first. Returns the number of changes that can still be undone; ...");
        for (int changes = 0; changes <= 20; changes++) {
            HardwareTaskQueue q = changed(changes);
            int most = Math.min(8, changes);
            for (int left = most - 1; left >= 0; left--) {
                Check.equal("undo of " + changes, q.undo(), left);
                int due = changes - most + left;
                Check.equal("as after " + due + " changes", Twins.sight(q),
                        Twins.sight(changed(due)));
            }
            Check.equal("no more than eight of " + changes, q.undo(), -1);
        }
    }

    /** Changes and undoings in turns, so that the kept ones go round whatever holds them. */
    private static void roundTheRing() {
        Check.about("The latest 8 changes that have not been undone can be undone, the latest one"
                + " first.");
        for (int step = 1; step <= 8; step++) {
            HardwareTaskQueue q = Check.queue(0, "queue 1 1 1;");
            List<Integer> clocks = new ArrayList<>(List.of(-1));
            for (int round = 1; round <= 12; round++) {
                for (int i = 0; i < step; i++) {
                    clocks.add(q.clock());
                    q.run(1 + (round + i) % 5);
                }
                while (clocks.size() > 8) {
                    clocks.remove(0);
                }
                for (int i = 0; i < step / 2; i++) {
                    int clock = clocks.remove(clocks.size() - 1);
                    Check.equal("undo by " + step, q.undo(), clocks.size());
                    Check.equal("clock by " + step, q.clock(), Math.max(0, clock));
                }
            }
        }
    }

    private static void noneToUndo() {
        Check.about("... -1 if there was none to undo, and nothing changes then.");
        Twins.answered("undo of a new object", -1, HardwareTaskQueue::new, q -> q.undo());
        Twins.answered("undo after an error", -1, () -> Makers.of("x"), q -> q.undo());
        Twins.answered("undo after undo", -1, () -> {
            HardwareTaskQueue q = Makers.of("queue 1 1 1;task 1 1;");
            q.undo();
            return q;
        }, q -> q.undo());
        Twins.answered("undo after eight", -1, () -> {
            HardwareTaskQueue q = Makers.full();
            for (int i = 0; i < 8; i++) {
                q.undo();
            }
            Check.feed(q, "queue 1 1 1;");
            return q;
        }, q -> q.undo());
        HardwareTaskQueue q = Makers.of("queue 1 1 1;");
        Check.equal("the last one", q.undo(), 0);
        Check.equal("none", q.undo(), -1);
        Check.equal("none again", q.undo(), -1);
        Check.load(q, "queue 1 1 1;");
        Check.equal("a new one", q.undo(), 0);
    }

    private static void undoneOnesAreGone() {
        Check.about("Undoes the latest change that has not been undone.");
        HardwareTaskQueue q = Makers.of("queue 2 1 1;");
        q.pause(0, true);
        q.submit(5, 5, 1);
        Check.equal("undo submit", q.undo(), 2);
        q.submit(7, 7, 0);
        Check.equal("the new task", q.priority(0), 7);
        Check.equal("undo the second submit, not the first", q.undo(), 2);
        Check.equal("taskCount", q.taskCount(), 0);
        Check.equal("undo pause", q.undo(), 1);
        Check.equal("isPaused", q.isPaused(0), false);
    }

    private static void beforeFirstLoad() {
        Check.about("Before the first successful load there are no cores, tasks and fences, and the"
                + " clock is 0.");
        List<HardwareTaskQueue> queues = new ArrayList<>(List.of(new HardwareTaskQueue(),
                Makers.of("queue 4 8 20;task 1 1;fence;x"), Makers.of("")));
        HardwareTaskQueue undone = Makers.of("queue 4 8 20;task 1 1;fence;");
        undone.run(5);
        undone.undo();
        undone.undo();
        queues.add(undone);
        for (HardwareTaskQueue q : queues) {
            Check.equal("as a new object", Twins.sight(q), Twins.sight(new HardwareTaskQueue()));
            Check.equal("coreCount", q.coreCount(), 0);
            Check.equal("taskCount", q.taskCount(), 0);
            Check.equal("fenceCount", q.fenceCount(), 0);
            Check.equal("clock", q.clock(), 0);
            Check.index("state(0)", () -> q.state(0));
            Check.index("isOpen(0)", () -> q.isOpen(0));
            Check.index("busy(0)", () -> q.busy(0));
            Check.state("run(1)", () -> q.run(1));
            Check.state("timeOn(1, 1)", () -> q.timeOn(1, 1));
            Check.index("submit", () -> q.submit(1, 1, 0));
            Check.index("pause", () -> q.pause(0, true));
        }
    }

    private static void inputNotAffected() {
        Check.about("The input buffer and the error offset are not affected.");
        HardwareTaskQueue q = Makers.busy();
        for (int i = 0; i < 5; i++) {
            Check.equal("errorOffset", q.errorOffset(), 10);
            q.undo();
        }
        Check.equal("errorOffset", q.errorOffset(), 10);
        Check.argument("load(41)", () -> q.load(41));
        Check.equal("load(40)", q.load(40), 2);
        Check.equal("errorOffset", q.errorOffset(), -1);
        Check.equal("undo", q.undo(), 0);
        Check.equal("errorOffset", q.errorOffset(), -1);
        Check.argument("the buffer does not come back", () -> q.load(1));
        HardwareTaskQueue full = Makers.of("queue 1 1 1;");
        Check.feed(full, " ".repeat(900));
        full.undo();
        Check.equal("a full buffer", full.append(0, 0, 0, 0, 0), -1);
    }

    private static void eachIsUndoneWhole() {
        Check.about("Undoes the latest change that has not been undone.");
        for (Twins.Act first : changes()) {
            HardwareTaskQueue q = Makers.full();
            Check.feed(q, "queue 1 1 1;task 9 9;fence;task 1 1;");
            String before = Twins.sight(q);
            List<Twins.Act> acts = List.of(a -> a.run(3), a -> a.pause(2, true),
                    a -> a.setPriority(31, 7), a -> a.cancel(30), a -> a.depend(31, 29),
                    a -> a.load(36), a -> a.submit(4, 4, 0));
            for (Twins.Act act : acts) {
                act.on(q);
            }
            for (int left = 7; left > 0; left--) {
                Check.equal("undo", q.undo(), left);
            }
            Check.equal("all seven are undone", Twins.sight(q), before);
            HardwareTaskQueue busy = Makers.busy();
            first.on(busy);
            String between = Twins.sight(busy);
            busy.run(7);
            busy.undo();
            Check.equal("a later run is undone alone", Twins.sight(busy), between);
        }
    }

    private static void crowdedIsUndone() {
        Check.about("Undoes the latest change that has not been undone.");
        HardwareTaskQueue q = Makers.crowded();
        String before = Twins.sight(q);
        for (int task = 0; task < 8; task++) {
            q.cancel(31 - 4 * task);
        }
        for (int left = 7; left >= 0; left--) {
            Check.equal("undo", q.undo(), left);
        }
        Check.equal("all queues are full again", Twins.sight(q), before);
        q.pause(3, false);
        q.run(200);
        q.undo();
        q.undo();
        Check.equal("all are in their queues again", Twins.sight(q), before);
        Check.equal("finishTime", q.finishTime(500), -1);
    }

    private static void throwsChangeNothing() {
        Check.about("A method that throws an exception changes nothing.");
        Twins.Maker maker = Makers::crowded;
        Twins.argument("load", maker, q -> q.load(1));
        Twins.index("state", maker, q -> q.state(32));
        Twins.index("isOpen", maker, q -> q.isOpen(0));
        Twins.index("queued", maker, q -> q.queued(3, 8));
        Twins.argument("finishTime", maker, q -> q.finishTime(501));
        Twins.argument("timeOn", maker, q -> q.timeOn(5, 500));
        Twins.argument("run", maker, q -> q.run(201));
        Twins.state("submit", maker, q -> q.submit(1, 1, 3));
        Twins.state("depend", maker, q -> q.depend(31, 30));
        Twins.index("cancel", maker, q -> q.cancel(32));
        Twins.argument("setPriority", maker, q -> q.setPriority(31, 10));
        Twins.index("pause", maker, q -> q.pause(4, false));
    }

    private static long sum(long... numbers) {
        BigInteger sum = BigInteger.ZERO;
        for (long number : numbers) {
            sum = sum.multiply(BigInteger.valueOf(31)).add(BigInteger.valueOf(number));
        }
        return sum.longValue();
    }

    private static void emptyChecksum() {
        Check.about("It starts at 0; ...");
        Twins.answered("checksum of a new object", 0, HardwareTaskQueue::new, q -> q.checksum());
        HardwareTaskQueue one = Makers.of("queue 1 1 1;");
        Check.equal("one core", one.checksum(), sum(0, 0, -1, 0, 0, 0));
        one.run(1);
        Check.equal("clock 1", one.checksum(), sum(1, 0, -1, 0, 0, 0));
        Check.equal("four cores", Makers.of("queue 4 1 1;").checksum(),
                sum(0, 0, -1, 0, 0, 0, -1, 0, 0, 0, -1, 0, 0, 0, -1, 0, 0, 0));
    }

    private static void orderOfChecksum() {
        Check.about("clock(), finished(); for each task its state, its priority and its counter; for"
                + " each core the tasks of its queue from the first one on, running(core),"
                + " remaining(core), busy(core) and steals(core).");
        Check.equal("tasks in all states", Makers.busy().checksum(), sum(4, 2,
                4, 9, 0, 3, 8, 0, 3, 7, 0, 2, 6, 0, 1, 5, 0, 0, 4, 1, 5, 3, 2,
                2, 9, 4, 0, 3, 1, 17, 4, 0));
        HardwareTaskQueue q = Makers.of("queue 2 8 20;" + "task 3 1 core 1;".repeat(3));
        q.run(1);
        Check.equal("a steal", q.checksum(), sum(1, 0, 3, 1, 0, 2, 1, 0, 3, 1, 0,
                2, 23, 1, 1, 1, 0, 3, 1, 0));
        q.cancel(1);
        Check.equal("a cancelled one", q.checksum(), sum(1, 1, 3, 1, 0, 5, 1, 0, 3, 1, 0,
                2, 23, 1, 1, 0, 3, 1, 0));
    }

    /** With this many numbers the sum is far beyond a long; BigInteger's lowest 64 bits are due. */
    private static void overflowOfChecksum() {
        Check.about("... each number n in the following order replaces it by 31 * checksum + n,"
                + " wrapping around on overflow of a long");
        // A clock of 5 and four tasks make 18 numbers; 31 to the 13th is beyond a long.
        for (int tasks = 0; tasks <= 32; tasks++) {
            HardwareTaskQueue q = Makers.of("queue 1 8 0;" + "task 99 9;".repeat(tasks));
            q.pause(0, true);
            q.run(5);
            Check.equal("checksum of " + tasks, q.checksum(), asked(q));
        }
    }

    private static long asked(HardwareTaskQueue q) {
        List<Long> numbers = new ArrayList<>(List.of((long) q.clock(), (long) q.finished()));
        for (int t = 0; t < q.taskCount(); t++) {
            numbers.addAll(List.of((long) q.state(t), (long) q.priority(t), (long) q.counter(t)));
        }
        for (int c = 0; c < q.coreCount(); c++) {
            for (int k = 0; k < q.queueLength(c); k++) {
                numbers.add((long) q.queued(c, k));
            }
            numbers.addAll(List.of((long) q.running(c), (long) q.remaining(c), (long) q.busy(c),
                    (long) q.steals(c)));
        }
        return sum(numbers.stream().mapToLong(Long::longValue).toArray());
    }

    private static void checksumOfAll() {
        Check.about("Computes a checksum.");
        HardwareTaskQueue q = Makers.full();
        for (int i = 0; i < 60; i++) {
            Check.equal("checksum at " + q.clock(), q.checksum(), asked(q));
            q.run(1);
        }
        Check.equal("finished", q.finished(), 32);
    }

    private static void manyCalls() {
        Check.about("An object is used for at most 512 calls after it has been made; ...");
        HardwareTaskQueue q = new HardwareTaskQueue();
        for (int call = 1; call <= CALLS; call += 2) {
            Check.equal("append, call " + call, q.append(0x71756575, 0x65203220, 0x3420303b,
                    0x7461736b, 0x31203b20), 20);
            Check.equal("load, call " + (call + 1), q.load(12), 0);
        }
        HardwareTaskQueue tasks = Makers.of("queue 2 8 0;");
        for (int call = 3; call <= CALLS; call += 2) {
            Check.equal("submit, call " + call, tasks.submit(9, 9, 1), 0);
            Check.equal("undo, call " + (call + 1), tasks.undo(), 1);
        }
    }
}
