/** Promises 8 to 22 and 26: the steps of one cycle, as the asking methods tell of them. */
public final class CycleTest {
    private static final int WAITING = HardwareTaskQueue.WAITING;
    private static final int READY = HardwareTaskQueue.READY;
    private static final int QUEUED = HardwareTaskQueue.QUEUED;
    private static final int RUNNING = HardwareTaskQueue.RUNNING;
    private static final int DONE = HardwareTaskQueue.DONE;

    public static void main(String[] args) {
        oneTask();
        orderOfPriorities();
        fullQueues();
        homeCores();
        stealing();
        stealingFromPaused();
        stealingBeforeTheOwner();
        dependencies();
        fences();
        fencesAtTheEdges();
        pausing();
        wrongIndexes();
        wrongRuns();
        clockLimit();
        Check.end();
    }

    private static void oneTask() {
        HardwareTaskQueue q = Check.queue(1, "queue 1 1 20;task 3 5;");
        Expect.states(q, WAITING);
        Expect.core(q, 0, -1, 0, 0, 0);
        Check.equal("priority", q.priority(0), 5);
        Check.equal("run 1", q.run(1), 0);
        Expect.states(q, RUNNING);
        Expect.core(q, 0, 0, 3, 1, 0);
        Check.equal("coreOf", q.coreOf(0), 0);
        Check.equal("doneAt", q.doneAt(0), -1);
        Check.equal("run 2", q.run(2), 0);
        Expect.core(q, 0, 0, 1, 3, 0);
        Check.equal("finished", q.finished(), 0);
        Check.equal("run 3", q.run(1), 1);
        Expect.states(q, DONE);
        Expect.core(q, 0, -1, 0, 3, 0);
        Check.equal("doneAt then", q.doneAt(0), 3);
        Check.equal("coreOf then", q.coreOf(0), 0);
        Check.equal("finished then", q.finished(), 1);
        Check.equal("clock then", q.clock(), 4);
        Check.equal("run 200", q.run(200), 0);
        Check.equal("clock at last", q.clock(), 204);
        Expect.core(q, 0, -1, 0, 3, 0);
    }

    private static void orderOfPriorities() {
        HardwareTaskQueue q = Check.queue(5,
                "queue 1 8 0;task 2 0;task 2 3;task 2 3;task 1 9;task 2 4;");
        Check.equal("run", q.run(1), 0);
        Expect.states(q, QUEUED, QUEUED, QUEUED, RUNNING, QUEUED);
        Expect.queue(q, 0, 4, 1, 2, 0);
        // The task that ends in a cycle makes room for the next one in the same cycle.
        Check.equal("run", q.run(1), 1);
        Expect.core(q, 0, 4, 2, 2, 0);
        Expect.queue(q, 0, 1, 2, 0);
        Check.equal("the rest", q.run(8), 4);
        Check.equal("doneAt 3", q.doneAt(3), 1);
        Check.equal("doneAt 4", q.doneAt(4), 3);
        Check.equal("doneAt 1", q.doneAt(1), 5);
        Check.equal("doneAt 2", q.doneAt(2), 7);
        Check.equal("doneAt 0", q.doneAt(0), 9);
    }

    private static void fullQueues() {
        HardwareTaskQueue q = Check.queue(8, "queue 3 2 0;"
                + "task 9 9 core 1;task 9 8 core 0;task 9 8 core 0;task 9 7 core 0;"
                + "task 9 6 core 0;task 9 5 core 0;task 9 4 core 2;task 9 3 core 1;");
        for (int c = 0; c < 3; c++) {
            Check.equal("pause", q.pause(c, true), false);
        }
        Check.equal("run", q.run(1), 0);
        // Task 3 goes to core 2, the shortest; 4 to core 1, the smaller of two with one task.
        Expect.queue(q, 0, 1, 2);
        Expect.queue(q, 1, 0, 4);
        Expect.queue(q, 2, 3, 5);
        Expect.states(q, QUEUED, QUEUED, QUEUED, QUEUED, QUEUED, QUEUED, READY, READY);
        Expect.core(q, 0, -1, 0, 0, 0);
        q.pause(1, false);
        q.run(1);
        Expect.core(q, 1, 0, 9, 1, 0);
        Expect.queue(q, 1, 4);
        Expect.states(q, RUNNING, QUEUED, QUEUED, QUEUED, QUEUED, QUEUED, READY, READY);
        // In the next cycle the READY task with the greater priority gets the place.
        q.run(1);
        Expect.queue(q, 1, 4, 6);
        Expect.queue(q, 2, 3, 5);
        Expect.states(q, RUNNING, QUEUED, QUEUED, QUEUED, QUEUED, QUEUED, QUEUED, READY);
    }

    /** Without core the home core is the index of the task modulo the number of cores. */
    private static void homeCores() {
        HardwareTaskQueue q = Check.queue(6,
                "queue 3 8 0;task 9 0;task 9 0 core 0;task 9 0;task 9 0;task 9 0;task 9 0 core 2;");
        for (int c = 0; c < 3; c++) {
            q.pause(c, true);
        }
        q.run(1);
        Expect.queue(q, 0, 0, 1, 3);
        Expect.queue(q, 1, 4);
        Expect.queue(q, 2, 2, 5);
    }

    private static void stealing() {
        HardwareTaskQueue q = Check.queue(7, "queue 4 8 7;task 1 0 core 1;task 2 0 core 1;"
                + "task 3 0 core 1;task 4 0 core 2;task 5 0 core 2;task 6 0 core 2;"
                + "task 7 0 core 3;");
        q.run(1);
        // Core 0 steals from core 1, the smaller of the two longest.
        Expect.core(q, 0, 2, 10, 1, 1);
        Expect.core(q, 1, 0, 1, 1, 0);
        Expect.core(q, 2, 3, 4, 1, 0);
        Expect.core(q, 3, 6, 7, 1, 0);
        Expect.queue(q, 1, 1);
        Expect.queue(q, 2, 4, 5);
        Check.equal("coreOf(2)", q.coreOf(2), 0);
        Check.equal("run(2)", q.run(2), 1);
        Expect.core(q, 1, 1, 1, 3, 0);
        Check.equal("run(1)", q.run(1), 1);
        // Core 1 has nothing left and steals the last task of core 2.
        Expect.core(q, 1, 5, 13, 4, 1);
        Expect.queue(q, 2, 4);
        Check.equal("run(1)", q.run(1), 1);
        Expect.core(q, 2, 4, 5, 5, 0);
        Check.equal("run(200)", q.run(200), 4);
        Expect.core(q, 0, -1, 0, 10, 1);
        Expect.core(q, 3, -1, 0, 7, 0);
    }

    private static void stealingFromPaused() {
        HardwareTaskQueue q = Check.queue(3,
                "queue 2 8 3;task 5 0 core 1;task 5 0 core 1;task 5 0 core 1;");
        q.pause(1, true);
        q.run(1);
        Expect.core(q, 0, 2, 8, 1, 1);
        Expect.core(q, 1, -1, 0, 0, 0);
        Expect.queue(q, 1, 0, 1);
        Check.equal("run", q.run(8), 1);
        Expect.core(q, 0, 1, 8, 9, 2);
        Expect.queue(q, 1, 0);
    }

    /** A smaller core is treated first, also when it takes away what a greater one would run. */
    private static void stealingBeforeTheOwner() {
        HardwareTaskQueue q = Check.queue(2, "queue 3 8 4;task 2 0 core 2;task 2 0 core 2;");
        q.run(1);
        Expect.core(q, 0, 1, 6, 1, 1);
        Expect.core(q, 1, 0, 6, 1, 1);
        Expect.core(q, 2, -1, 0, 0, 0);
        Check.equal("coreOf(0)", q.coreOf(0), 1);
        Check.equal("run", q.run(6), 2);
        Check.equal("doneAt(0)", q.doneAt(0), 6);
    }

    private static void dependencies() {
        HardwareTaskQueue q = Check.queue(4,
                "queue 2 4 0;task 2 0;task 4 0;task 1 9 after 0 1;task 1 1 after 2 0;");
        Check.equal("counter(0)", q.counter(0), 0);
        Check.equal("counter(2)", q.counter(2), 2);
        Check.equal("counter(3)", q.counter(3), 2);
        q.run(3);
        Expect.states(q, DONE, RUNNING, WAITING, WAITING);
        Check.equal("counter(2)", q.counter(2), 1);
        Check.equal("counter(3)", q.counter(3), 1);
        Check.equal("run", q.run(2), 1);
        Expect.states(q, DONE, DONE, RUNNING, WAITING);
        Check.equal("counter(2)", q.counter(2), 0);
        Check.equal("run", q.run(1), 1);
        Expect.states(q, DONE, DONE, DONE, RUNNING);
        Check.equal("run", q.run(1), 1);
        Check.equal("finished", q.finished(), 4);
    }

    private static void fences() {
        HardwareTaskQueue q = Check.queue(3,
                "queue 2 4 0;task 1 0;fence;task 3 0;fence;fence;task 1 0 after 0;");
        Check.equal("fenceCount", q.fenceCount(), 3);
        Check.equal("counter(0)", q.counter(0), 0);
        Check.equal("counter(1)", q.counter(1), 1);
        Check.equal("counter(2)", q.counter(2), 4);
        Check.equal("isOpen(0)", q.isOpen(0), false);
        q.run(2);
        Expect.states(q, DONE, RUNNING, WAITING);
        Check.equal("isOpen(0)", q.isOpen(0), true);
        Check.equal("isOpen(1)", q.isOpen(1), false);
        Check.equal("isOpen(2)", q.isOpen(2), false);
        Check.equal("counter(2)", q.counter(2), 2);
        Check.equal("submit", q.submit(1, 1, 0), 3);
        Check.equal("counter(3)", q.counter(3), 2);
        Check.equal("run", q.run(3), 1);
        Expect.states(q, DONE, DONE, RUNNING, RUNNING);
        Check.equal("isOpen(2)", q.isOpen(2), true);
        Check.equal("counter(3)", q.counter(3), 0);
    }

    private static void fencesAtTheEdges() {
        HardwareTaskQueue q = Check.queue(1, "queue 1 4 0;fence;task 1 0;fence;");
        Check.equal("a fence before all tasks", q.isOpen(0), true);
        Check.equal("a fence behind all tasks", q.isOpen(1), false);
        Check.equal("counter(0)", q.counter(0), 0);
        Check.equal("cancel", q.cancel(0), WAITING);
        Check.equal("cancelled is finished", q.isOpen(1), true);

        HardwareTaskQueue full = Check.queue(32, "queue 1 8 0;" + "task 1 0;".repeat(32) + "fence;");
        full.run(32);
        Check.equal("31 tasks of 32", full.finished(), 31);
        Check.equal("fence behind 32 tasks", full.isOpen(0), false);
        Check.equal("the last one", full.run(1), 1);
        Check.equal("fence behind 32 tasks then", full.isOpen(0), true);
        Check.equal("index of the last one", full.doneAt(31), 32);
    }

    private static void pausing() {
        HardwareTaskQueue q = Check.queue(2, "queue 1 4 0;task 2 5;task 2 0;");
        q.run(1);
        Check.equal("pause", q.pause(0, true), false);
        Check.equal("isPaused", q.isPaused(0), true);
        Check.equal("run", q.run(5), 1);
        Expect.states(q, DONE, QUEUED);
        Expect.core(q, 0, -1, 0, 2, 0);
        Check.equal("pause again", q.pause(0, true), true);
        Check.equal("go on", q.pause(0, false), true);
        Check.equal("isPaused", q.isPaused(0), false);
        q.run(1);
        Expect.core(q, 0, 1, 2, 3, 0);
    }

    private static void wrongIndexes() {
        HardwareTaskQueue q = Check.queue(2, "queue 3 4 0;task 2 5;fence;task 2 0;");
        q.pause(0, true);
        q.pause(1, true);
        q.pause(2, true);
        q.run(1);
        Expect.queue(q, 0, 0);
        int[] none = {-1, 3, 4, 32, 33, Integer.MAX_VALUE, Integer.MIN_VALUE};
        for (int i : none) {
            Check.index("state", () -> q.state(i));
            Check.index("counter", () -> q.counter(i));
            Check.index("priority", () -> q.priority(i));
            Check.index("coreOf", () -> q.coreOf(i));
            Check.index("doneAt", () -> q.doneAt(i));
            Check.index("isOpen", () -> q.isOpen(i));
            Check.index("queueLength", () -> q.queueLength(i));
            Check.index("queued", () -> q.queued(i, 0));
            Check.index("queued place", () -> q.queued(0, i));
            Check.index("running", () -> q.running(i));
            Check.index("remaining", () -> q.remaining(i));
            Check.index("busy", () -> q.busy(i));
            Check.index("steals", () -> q.steals(i));
            Check.index("isPaused", () -> q.isPaused(i));
        }
        Check.index("state(2)", () -> q.state(2));
        Check.index("counter(2)", () -> q.counter(2));
        Check.index("priority(2)", () -> q.priority(2));
        Check.index("coreOf(2)", () -> q.coreOf(2));
        Check.index("doneAt(2)", () -> q.doneAt(2));
        Check.index("isOpen(1)", () -> q.isOpen(1));
        Check.index("queued(0, 1)", () -> q.queued(0, 1));
        Check.index("queued(1, 0)", () -> q.queued(1, 0));
        Check.equal("queued(0, 0)", q.queued(0, 0), 0);
    }

    private static void wrongRuns() {
        HardwareTaskQueue empty = new HardwareTaskQueue();
        Check.argument("run(0) without cores", () -> empty.run(0));
        Check.state("run(1) without cores", () -> empty.run(1));
        HardwareTaskQueue q = Check.queue(0, "queue 1 4 0;");
        for (int cycles : new int[] {0, -1, 201, Integer.MAX_VALUE, Integer.MIN_VALUE}) {
            Check.argument("run(" + cycles + ")", () -> q.run(cycles));
        }
        Check.equal("clock", q.clock(), 0);
        Check.equal("run without tasks", q.run(200), 0);
        Check.equal("clock", q.clock(), 200);
    }

    private static void clockLimit() {
        HardwareTaskQueue q = Check.queue(0, "queue 4 8 0;");
        for (int i = 0; i < 499; i++) {
            q.run(200);
        }
        q.run(199);
        Check.equal("clock", q.clock(), 99999);
        Check.state("run(2)", () -> q.run(2));
        Check.state("run(200)", () -> q.run(200));
        Check.argument("run(201)", () -> q.run(201));
        Check.equal("run(1)", q.run(1), 0);
        Check.equal("clock", q.clock(), 100000);
        Check.state("run(1)", () -> q.run(1));
        Check.equal("undo", q.undo(), 7);
        Check.equal("clock", q.clock(), 99999);
    }
}
