import java.util.List;

/** The edges that promises 5 to 22 name: the methods that ask of cores, tasks and fences. */
public final class EdgeAskTest {
    private static final int[] FAR = {Integer.MIN_VALUE, -33, -32, -1, 33, 64, Integer.MAX_VALUE};
    private static final String TASKS = "queue 4 8 0;" + "task 9 1;".repeat(32);

    public static void main(String[] args) {
        coreCount();
        taskCount();
        fenceCount();
        clock();
        noSuchTask();
        state();
        counter();
        priority();
        coreOf();
        doneAt();
        lastDoneAt();
        noSuchFence();
        isOpen();
        noSuchCore();
        queueLength();
        noSuchPlace();
        queued();
        running();
        remaining();
        busy();
        steals();
        isPaused();
        finished();
        Check.end();
    }

    private static void coreCount() {
        Check.about("Returns the number of cores.");
        Check.equal("none", new HardwareTaskQueue().coreCount(), 0);
        Check.equal("the fewest", Makers.of("queue 1 1 0;").coreCount(), 1);
        Check.equal("the most", Makers.of("queue 4 1 0;").coreCount(), 4);
        HardwareTaskQueue q = Makers.of("queue 3 1 0;");
        q.timeOn(4, 5);
        Check.equal("timeOn does not change it", q.coreCount(), 3);
        q.undo();
        Check.equal("after undo", q.coreCount(), 0);
    }

    private static void taskCount() {
        Check.about("Returns the number of tasks.");
        Check.equal("none", new HardwareTaskQueue().taskCount(), 0);
        HardwareTaskQueue q = Makers.of("queue 1 8 0;" + "task 1 1;".repeat(30));
        Check.equal("by load", q.taskCount(), 30);
        q.submit(1, 1, 0);
        q.submit(1, 1, 0);
        Check.equal("by submit", q.taskCount(), 32);
        Check.state("a 33rd", () -> q.submit(1, 1, 0));
        Check.equal("not more", q.taskCount(), 32);
        q.cancel(31);
        q.run(200);
        Check.equal("finished tasks count", q.taskCount(), 32);
        q.undo();
        q.undo();
        q.undo();
        Check.equal("after undo", q.taskCount(), 31);
    }

    private static void fenceCount() {
        Check.about("Returns the number of fences.");
        Check.equal("none", new HardwareTaskQueue().fenceCount(), 0);
        Check.equal("no fence in the text", Makers.of("queue 1 8 0;").fenceCount(), 0);
        HardwareTaskQueue q = Makers.of("queue 1 8 0;" + "fence;".repeat(8));
        Check.equal("open ones count", q.fenceCount(), 8);
        q.undo();
        Check.equal("after undo", q.fenceCount(), 0);
    }

    private static void clock() {
        Check.about("Returns the clock.");
        Check.equal("before a load", new HardwareTaskQueue().clock(), 0);
        HardwareTaskQueue q = Makers.of("queue 1 8 0;task 1 1;");
        q.run(3);
        q.finishTime(500);
        q.timeOn(1, 500);
        Check.equal("predictions do not change it", q.clock(), 3);
        q.undo();
        Check.equal("after undo", q.clock(), 0);
    }

    private static List<Twins.Act> taskActs(int task) {
        return List.of(q -> q.state(task), q -> q.counter(task), q -> q.priority(task),
                q -> q.coreOf(task), q -> q.doneAt(task));
    }

    private static void allowed(String what, Twins.Maker maker, Twins.Act act) {
        Twins.answered(what, 1, maker, q -> {
            act.on(q);
            return 1;
        });
    }

    private static void noSuchTask() {
        Check.about("Throws IndexOutOfBoundsException if there is no such task");
        for (int far : FAR) {
            for (Twins.Act act : taskActs(far)) {
                Twins.index("task " + far, HardwareTaskQueue::new, act);
                Twins.index("task " + far, Makers::busy, act);
                Twins.index("task " + far, Makers::full, act);
            }
        }
        int[] counts = {0, 1, 2, 31, 32};
        for (int count : counts) {
            Twins.Maker maker = () -> Makers.of("queue 2 8 0;" + "task 9 1;".repeat(count));
            for (Twins.Act act : taskActs(count)) {
                Twins.index("task " + count + " of " + count, maker, act);
            }
            if (count > 0) {
                taskActs(count - 1).forEach(act -> allowed("the last task", maker, act));
            }
        }
        // A task that undo has taken away is not there, though it was.
        HardwareTaskQueue q = Makers.of("queue 2 8 0;task 1 1;");
        q.submit(1, 1, 1);
        q.undo();
        for (Twins.Act act : taskActs(1)) {
            Check.index("an undone task", () -> act.on(q));
        }
    }

    private static void state() {
        Check.about("Returns its state.");
        HardwareTaskQueue q = Makers.busy();
        Check.equal("WAITING", q.state(Makers.WAITING), 0);
        Check.equal("READY", q.state(Makers.READY), 1);
        Check.equal("QUEUED", q.state(Makers.QUEUED), 2);
        Check.equal("RUNNING", q.state(Makers.RUNNING), 3);
        Check.equal("DONE", q.state(Makers.DONE), 4);
        Check.equal("CANCELLED", q.state(Makers.CANCELLED), 5);
        Check.equal("the last of 32", Makers.full().state(31), 0);
    }

    private static void counter() {
        Check.about("Returns its counter.");
        HardwareTaskQueue q = Makers.busy();
        Check.equal("of a task that is done", q.counter(Makers.DONE), 0);
        Check.equal("of a task behind the fence", q.counter(Makers.WAITING), 1);
        Check.equal("of a cancelled task behind it", q.counter(Makers.CANCELLED), 2);
        HardwareTaskQueue full = Makers.of("queue 4 8 20;" + ("task 2 1;".repeat(4)
                + "fence;").repeat(8));
        for (int t = 0; t < 32; t++) {
            Check.equal("counter(" + t + ")", full.counter(t), t / 4);
        }
    }

    private static void priority() {
        Check.about("Returns its priority.");
        HardwareTaskQueue q = Makers.of("queue 1 8 0;task 1 0;task 1 9;");
        Check.equal("the smallest", q.priority(0), 0);
        Check.equal("the greatest", q.priority(1), 9);
        q.setPriority(0, 9);
        q.setPriority(1, 0);
        Check.equal("set to the greatest", q.priority(0), 9);
        Check.equal("set to the smallest", q.priority(1), 0);
    }

    private static void coreOf() {
        Check.about("Returns the core that runs it or has run it; -1 if there is none.");
        HardwareTaskQueue q = Makers.busy();
        Check.equal("WAITING", q.coreOf(Makers.WAITING), -1);
        Check.equal("READY", q.coreOf(Makers.READY), -1);
        Check.equal("QUEUED", q.coreOf(Makers.QUEUED), -1);
        Check.equal("RUNNING", q.coreOf(Makers.RUNNING), 1);
        Check.equal("DONE", q.coreOf(Makers.DONE), 0);
        Check.equal("CANCELLED", q.coreOf(Makers.CANCELLED), -1);
        HardwareTaskQueue queued = Makers.busy();
        queued.cancel(Makers.QUEUED);
        Check.equal("cancelled in a queue", queued.coreOf(Makers.QUEUED), -1);
        HardwareTaskQueue stolen = Makers.of("queue 4 8 0;task 1 1 core 3;");
        stolen.run(1);
        Check.equal("the thief, not the home core", stolen.coreOf(0), 0);
        HardwareTaskQueue last = Makers.of("queue 4 8 0;task 9 1;task 9 1;task 9 1;task 9 1;");
        last.run(1);
        Check.equal("the greatest core", last.coreOf(3), 3);
    }

    private static void doneAt() {
        Check.about("Returns the clock at the beginning of the cycle in which it became DONE; -1 if it"
                + " is not DONE.");
        HardwareTaskQueue q = Makers.busy();
        Check.equal("WAITING", q.doneAt(Makers.WAITING), -1);
        Check.equal("READY", q.doneAt(Makers.READY), -1);
        Check.equal("QUEUED", q.doneAt(Makers.QUEUED), -1);
        Check.equal("RUNNING", q.doneAt(Makers.RUNNING), -1);
        Check.equal("DONE", q.doneAt(Makers.DONE), 3);
        Check.equal("CANCELLED", q.doneAt(Makers.CANCELLED), -1);
        HardwareTaskQueue one = Makers.of("queue 1 8 0;task 1 1;");
        one.run(1);
        Check.equal("not yet", one.doneAt(0), -1);
        one.run(1);
        Check.equal("the smallest", one.doneAt(0), 1);
        one.run(100);
        Check.equal("it stays", one.doneAt(0), 1);
        one.undo();
        one.undo();
        Check.equal("undone", one.doneAt(0), -1);
    }

    private static void lastDoneAt() {
        Check.about("Returns the clock at the beginning of the cycle in which it became DONE; ...");
        HardwareTaskQueue q = Makers.of("queue 1 8 0;");
        for (int i = 0; i < 499; i++) {
            q.run(200);
        }
        q.run(198);
        q.submit(1, 1, 0);
        Check.equal("the last two cycles", q.run(2), 1);
        Check.equal("the greatest", q.doneAt(0), 99999);
        Check.equal("clock", q.clock(), 100000);
    }

    private static void noSuchFence() {
        Check.about("Throws IndexOutOfBoundsException if there is no such fence");
        for (int far : FAR) {
            Twins.index("isOpen(" + far + ")", HardwareTaskQueue::new, q -> q.isOpen(far));
            Twins.index("isOpen(" + far + ")", Makers::busy, q -> q.isOpen(far));
            Twins.index("isOpen(" + far + ")", Makers::full, q -> q.isOpen(far));
        }
        for (int count : new int[] {0, 1, 2, 7, 8}) {
            Twins.Maker maker = () -> Makers.of("queue 2 8 0;" + "fence;".repeat(count));
            Twins.index("fence " + count + " of " + count, maker, q -> q.isOpen(count));
            for (int f = 0; f < count; f++) {
                int fence = f;
                Twins.answered("isOpen", 1, maker, q -> q.isOpen(fence) ? 1 : 0);
            }
        }
        HardwareTaskQueue q = Makers.of("queue 2 8 0;fence;fence;");
        Check.load(q, "queue 2 8 0;fence;");
        Check.index("a fence of an earlier setup", () -> q.isOpen(1));
    }

    private static void isOpen() {
        Check.about("Returns whether it is open.");
        HardwareTaskQueue q = Makers.of("queue 2 8 0;fence;task 3 1;task 2 1;fence;task 1 1;fence;");
        boolean[][] due = {{true, false, false}, {true, false, false}, {true, false, false},
            {true, false, false}, {true, true, false}, {true, true, true}};
        for (boolean[] row : due) {
            for (int f = 0; f < 3; f++) {
                Check.equal("isOpen(" + f + ") at " + q.clock(), q.isOpen(f), row[f]);
            }
            q.run(1);
        }
        q.submit(1, 1, 0);
        Check.equal("a task behind it does not close it", q.isOpen(2), true);
    }

    private static List<Twins.Act> coreActs(int core) {
        return List.of(q -> q.queueLength(core), q -> q.queued(core, 0), q -> q.running(core),
                q -> q.remaining(core), q -> q.busy(core), q -> q.steals(core),
                q -> q.isPaused(core));
    }

    private static void noSuchCore() {
        Check.about("Throws IndexOutOfBoundsException if there is no such core");
        for (int far : FAR) {
            for (Twins.Act act : coreActs(far)) {
                Twins.index("core " + far, HardwareTaskQueue::new, act);
                Twins.index("core " + far, Makers::busy, act);
                Twins.index("core " + far, Makers::full, act);
            }
        }
        for (Twins.Act act : coreActs(0)) {
            Twins.index("core 0 of none", HardwareTaskQueue::new, act);
        }
        for (int cores = 1; cores <= 4; cores++) {
            String text = "queue " + cores + " 8 0;" + "task 9 1;".repeat(cores);
            Twins.Maker maker = () -> paused(text);
            for (Twins.Act act : coreActs(cores)) {
                Twins.index("core " + cores + " of " + cores, maker, act);
            }
            coreActs(cores - 1).forEach(act -> allowed("the last core", maker, act));
        }
        HardwareTaskQueue q = Makers.of("queue 4 8 0;");
        Check.load(q, "queue 2 8 0;");
        for (Twins.Act act : coreActs(2)) {
            Check.index("a core of an earlier setup", () -> act.on(q));
        }
    }

    /** A queue with this setup whose cores are all paused, after one cycle. */
    private static HardwareTaskQueue paused(String text) {
        HardwareTaskQueue q = Makers.of(text);
        for (int c = 0; c < q.coreCount(); c++) {
            q.pause(c, true);
        }
        q.run(1);
        return q;
    }

    private static void queueLength() {
        Check.about("Returns the number of tasks in its queue.");
        for (int tasks = 0; tasks <= 9; tasks++) {
            HardwareTaskQueue q = paused("queue 1 8 0;" + "task 9 1;".repeat(tasks));
            Check.equal("queueLength with " + tasks, q.queueLength(0), Math.min(8, tasks));
        }
        HardwareTaskQueue q = Makers.of("queue 1 8 0;task 9 1;");
        Check.equal("before the first cycle", q.queueLength(0), 0);
        q.run(1);
        Check.equal("a running task is not in it", q.queueLength(0), 0);
    }

    private static void noSuchPlace() {
        Check.about("Throws IndexOutOfBoundsException if there is no such core or no such place in its"
                + " queue");
        for (int tasks : new int[] {0, 1, 7, 8, 9}) {
            int length = Math.min(8, tasks);
            Twins.Maker maker = () -> paused("queue 2 8 0;" + "task 9 1 core 0;".repeat(tasks));
            Twins.index("queued(0, " + length + ")", maker, q -> q.queued(0, length));
            for (int far : FAR) {
                Twins.index("queued(0, " + far + ")", maker, q -> q.queued(0, far));
                Twins.index("queued(" + far + ", 0)", maker, q -> q.queued(far, 0));
                Twins.index("queued(2, " + far + ")", maker, q -> q.queued(2, far));
            }
            if (length > 0) {
                Check.equal("the first place", maker.make().queued(0, 0), 0);
                Check.equal("the last place", maker.make().queued(0, length - 1), length - 1);
            }
        }
        // What a queue held before is not in it any more.
        HardwareTaskQueue q = paused("queue 1 8 0;task 9 1;task 9 1;");
        q.cancel(0);
        Check.equal("queued(0, 0)", q.queued(0, 0), 1);
        Check.index("queued(0, 1)", () -> q.queued(0, 1));
        q.cancel(1);
        Check.index("queued(0, 0)", () -> q.queued(0, 0));
        HardwareTaskQueue four = paused(TASKS);
        Check.index("queued(0, 8), beside core 1", () -> four.queued(0, 8));
        Check.index("queued(1, -1), beside core 0", () -> four.queued(1, -1));
        Check.index("queued(3, 8)", () -> four.queued(3, 8));
    }

    private static void queued() {
        Check.about("k: index in its queue, from 0 (the first task). Returns the task.");
        HardwareTaskQueue q = paused(TASKS);
        for (int core = 0; core < 4; core++) {
            for (int k = 0; k < 8; k++) {
                Check.equal("queued(" + core + ", " + k + ")", q.queued(core, k), 4 * k + core);
            }
        }
    }

    private static void running() {
        Check.about("Returns the task that it runs; -1 if it runs none.");
        HardwareTaskQueue q = Makers.of("queue 2 8 0;task 1 1 core 0;");
        Check.equal("before", q.running(0), -1);
        q.run(1);
        Check.equal("task 0", q.running(0), 0);
        Check.equal("no task", q.running(1), -1);
        q.run(1);
        Check.equal("afterwards", q.running(0), -1);
        HardwareTaskQueue last = Makers.of("queue 1 8 0;" + "task 1 0;".repeat(31) + "task 1 9;");
        last.run(1);
        Check.equal("task 31", last.running(0), 31);
    }

    private static void remaining() {
        Check.about("Returns the remaining time of the task that it runs; 0 if it runs none.");
        HardwareTaskQueue q = Makers.of("queue 2 8 0;task 2 1 core 0;");
        Check.equal("before", q.remaining(0), 0);
        q.run(1);
        Check.equal("its length at first", q.remaining(0), 2);
        Check.equal("no task", q.remaining(1), 0);
        q.run(1);
        Check.equal("the smallest while it runs", q.remaining(0), 1);
        q.run(1);
        Check.equal("afterwards", q.remaining(0), 0);
        HardwareTaskQueue longest = Makers.of("queue 2 8 20;task 1 1 core 1;length 999;");
        longest.run(1);
        Check.equal("the greatest", longest.remaining(0), 1019);
    }

    private static void busy() {
        Check.about("Returns the number of cycles at whose end it runs a task.");
        HardwareTaskQueue q = Makers.of("queue 2 8 0;task 1 1 core 0;task 2 1 core 0 after 0;");
        q.pause(1, true);
        int[] due = {0, 1, 2, 3, 3, 3};
        for (int count : due) {
            Check.equal("busy(0) at " + q.clock(), q.busy(0), count);
            Check.equal("busy(1) at " + q.clock(), q.busy(1), 0);
            q.run(1);
        }
        HardwareTaskQueue always = Makers.of("queue 1 8 0;task 9 1;length 999;");
        for (int i = 0; i < 4; i++) {
            always.run(200);
        }
        Check.equal("in each of 800 cycles", always.busy(0), 800);
        HardwareTaskQueue going = Makers.of("queue 1 8 0;task 3 1;");
        going.run(1);
        going.pause(0, true);
        going.run(9);
        Check.equal("a paused core that goes on", going.busy(0), 3);
    }

    private static void steals() {
        Check.about("Returns the number of tasks that it has stolen.");
        HardwareTaskQueue q = Makers.of("queue 2 8 0;" + "task 1 1 core 1;".repeat(4));
        q.pause(1, true);
        for (int count : new int[] {0, 1, 2, 3, 4, 4}) {
            Check.equal("steals(0) at " + q.clock(), q.steals(0), count);
            Check.equal("steals(1) at " + q.clock(), q.steals(1), 0);
            q.run(1);
        }
        HardwareTaskQueue moved = Makers.of("queue 2 1 0;task 1 2 core 0;task 1 1 core 0;");
        moved.run(1);
        Check.equal("what went to another queue is not stolen", moved.steals(1), 0);
        Check.equal("running", moved.running(1), 1);
    }

    private static void isPaused() {
        Check.about("Returns whether it is paused.");
        HardwareTaskQueue q = Makers.of("queue 4 8 0;");
        for (int c = 0; c < 4; c++) {
            Check.equal("at first", q.isPaused(c), false);
        }
        q.pause(0, true);
        q.pause(3, true);
        boolean[] due = {true, false, false, true};
        for (int c = 0; c < 4; c++) {
            Check.equal("isPaused(" + c + ")", q.isPaused(c), due[c]);
        }
        q.run(5);
        Check.equal("it stays", q.isPaused(3), true);
        q.pause(3, false);
        Check.equal("it goes on", q.isPaused(3), false);
    }

    private static void finished() {
        Check.about("Returns the number of tasks that are finished.");
        Check.equal("no tasks", new HardwareTaskQueue().finished(), 0);
        HardwareTaskQueue q = Makers.of("queue 1 8 0;" + "task 1 1;".repeat(32));
        Check.equal("none of 32", q.finished(), 0);
        q.run(32);
        Check.equal("31 of 32", q.finished(), 31);
        q.run(1);
        Check.equal("32 of 32", q.finished(), 32);
        q.run(9);
        Check.equal("not more", q.finished(), 32);
        HardwareTaskQueue cancelled = Makers.of(TASKS);
        for (int t = 31; t >= 0; t--) {
            cancelled.cancel(t);
            Check.equal("cancelled ones", cancelled.finished(), 32 - t);
        }
    }
}
