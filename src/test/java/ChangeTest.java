/** Promises 27 to 33: submit, depend, cancel, setPriority, pause, undo and checksum. */
public final class ChangeTest {
    private static final int WAITING = HardwareTaskQueue.WAITING;
    private static final int READY = HardwareTaskQueue.READY;
    private static final int QUEUED = HardwareTaskQueue.QUEUED;
    private static final int CANCELLED = HardwareTaskQueue.CANCELLED;

    public static void main(String[] args) {
        submit();
        depend();
        cancel();
        cancelInFullQueues();
        setPriority();
        pause();
        undoOfEach();
        undoOfEight();
        undoAndInput();
        undoOfLoad();
        checksum();
        Check.end();
    }

    private static void submit() {
        HardwareTaskQueue empty = new HardwareTaskQueue();
        Check.index("submit without cores", () -> empty.submit(0, 0, 0));
        HardwareTaskQueue q = Check.queue(31, "queue 2 8 0;" + "task 1 1;".repeat(31));
        Check.index("core -1", () -> q.submit(0, 10, -1));
        Check.index("core 2", () -> q.submit(1, 1, 2));
        Check.argument("duration 0", () -> q.submit(0, 1, 0));
        Check.argument("duration 100", () -> q.submit(100, 1, 0));
        Check.argument("priority -1", () -> q.submit(1, -1, 0));
        Check.argument("priority 10", () -> q.submit(1, 10, 0));
        Check.equal("still 31", q.taskCount(), 31);
        Check.equal("submit", q.submit(99, 9, 1), 31);
        Check.equal("taskCount", q.taskCount(), 32);
        Check.equal("its state", q.state(31), WAITING);
        Check.equal("its priority", q.priority(31), 9);
        Check.equal("its counter", q.counter(31), 0);
        Check.equal("its core", q.coreOf(31), -1);
        Check.equal("its end", q.doneAt(31), -1);
        Check.state("a 33rd task", () -> q.submit(1, 1, 1));
        Check.argument("a 33rd task of duration 0", () -> q.submit(0, 1, 1));
        Check.index("a 33rd task on core 2", () -> q.submit(0, 1, 2));
        q.run(1);
        Check.equal("it is first", q.running(1), 31);
        Check.equal("its length", q.remaining(1), 99);
        Check.equal("undo run", q.undo(), 2);
        Check.equal("undo submit", q.undo(), 1);
        Check.equal("taskCount", q.taskCount(), 31);
        Check.equal("submit again", q.submit(1, 0, 0), 31);
        Check.equal("the new one", q.priority(31), 0);
    }

    private static void depend() {
        HardwareTaskQueue q = Check.queue(5,
                "queue 1 8 0;task 1 9;task 9 1;fence;task 1 1;task 1 1 after 1;task 1 1 after 0;");
        for (int task : new int[] {-1, 5, 32, Integer.MAX_VALUE, Integer.MIN_VALUE}) {
            Check.index("depend(" + task + ", 0)", () -> q.depend(task, 0));
        }
        Check.index("depend(2, -1)", () -> q.depend(2, -1));
        Check.index("depend(2, min)", () -> q.depend(2, Integer.MIN_VALUE));
        Check.argument("depend(0, 0)", () -> q.depend(0, 0));
        Check.argument("depend(2, 3)", () -> q.depend(2, 3));
        Check.argument("depend(2, 34)", () -> q.depend(2, 34));
        Check.argument("depend(2, max)", () -> q.depend(2, Integer.MAX_VALUE));
        Check.argument("depend(3, 1), a predecessor already", () -> q.depend(3, 1));
        Check.equal("counter(2)", q.counter(2), 1);
        Check.equal("depend(2, 1)", q.depend(2, 1), 2);
        Check.equal("depend(2, 0)", q.depend(2, 0), 3);
        Check.argument("depend(2, 0) again", () -> q.depend(2, 0));
        q.run(2);
        Check.equal("counter(2)", q.counter(2), 2);
        Check.equal("a finished predecessor does not count", q.depend(3, 0), 2);
        Check.state("depend(1, 0) of a running task", () -> q.depend(1, 0));
        Check.argument("depend(0, 0) of a done task", () -> q.depend(0, 0));
        Check.argument("depend(1, 1) of a running task", () -> q.depend(1, 1));
        Check.equal("cancel(4)", q.cancel(4), WAITING);
        Check.state("depend(4, 3) of a cancelled task", () -> q.depend(4, 3));
        Check.argument("depend(4, 0), a predecessor already", () -> q.depend(4, 0));
        Check.equal("depend on a fenced task", q.depend(3, 2), 3);
        q.run(200);
        Check.equal("all end", q.finished(), 5);
        Check.state("depend(2, 0) would be twice, (3, x) is done", () -> dependOnNew(q));

        HardwareTaskQueue ready = Check.queue(3, "queue 1 1 0;task 9 2;task 9 1;task 9 0;");
        ready.run(1);
        Check.equal("state(1)", ready.state(1), READY);
        Check.state("depend of a ready task", () -> ready.depend(1, 0));
        ready.run(1);
        Check.equal("state(1)", ready.state(1), QUEUED);
        Check.state("depend of a queued task", () -> ready.depend(1, 0));
    }

    private static void dependOnNew(HardwareTaskQueue q) {
        q.submit(1, 1, 0);
        q.submit(1, 1, 0);
        Check.equal("depend(6, 5)", q.depend(6, 5), 1);
        q.run(5);
        q.depend(6, 0);
    }

    private static void cancel() {
        HardwareTaskQueue q = Check.queue(6, "queue 1 3 0;task 9 9;task 9 8;task 9 7;task 9 6;"
                + "task 9 0;task 9 0 after 2;");
        for (int task : new int[] {-1, 6, 32, Integer.MAX_VALUE, Integer.MIN_VALUE}) {
            Check.index("cancel(" + task + ")", () -> q.cancel(task));
        }
        q.run(2);
        Check.equal("queueLength", q.queueLength(0), 3);
        Check.state("cancel of a running task", () -> q.cancel(0));
        Check.equal("cancel of a queued task", q.cancel(2), QUEUED);
        Check.equal("state", q.state(2), CANCELLED);
        Check.equal("queueLength", q.queueLength(0), 2);
        Check.equal("queued(0, 0)", q.queued(0, 0), 1);
        Check.equal("queued(0, 1)", q.queued(0, 1), 3);
        Check.state("cancel of a cancelled task", () -> q.cancel(2));
        Check.equal("a successor need not wait", q.counter(5), 0);
        Check.equal("until the next cycle", q.state(5), WAITING);
        Check.equal("cancel of a ready task", q.cancel(4), READY);
        q.run(1);
        Check.equal("the successor is in the queue", q.queued(0, 2), 5);
        Check.equal("finished", q.finished(), 2);
        Check.equal("coreOf a cancelled task", q.coreOf(2), -1);
        Check.equal("doneAt of a cancelled task", q.doneAt(2), -1);
        Check.equal("run counts no cancelled tasks", q.run(200), 4);
        Check.state("cancel of a done task", () -> q.cancel(0));

        HardwareTaskQueue w = Check.queue(2, "queue 1 3 0;task 9 9;task 1 1 after 0;");
        Check.equal("cancel of a waiting task", w.cancel(1), WAITING);
        Check.equal("its counter is still told", w.counter(1), 1);
        w.run(10);
        Check.equal("it stays cancelled", w.state(1), CANCELLED);
    }

    private static void cancelInFullQueues() {
        HardwareTaskQueue q = Check.queue(32, "queue 4 8 0;" + "task 9 1;".repeat(32));
        for (int core = 0; core < 4; core++) {
            q.pause(core, true);
        }
        q.run(1);
        for (int task : new int[] {3, 31, 15, 0, 28, 17}) {
            Check.equal("cancel(" + task + ")", q.cancel(task), QUEUED);
        }
        int[][] due = {{4, 8, 12, 16, 20, 24}, {1, 5, 9, 13, 21, 25, 29},
            {2, 6, 10, 14, 18, 22, 26, 30}, {7, 11, 19, 23, 27}};
        for (int core = 0; core < 4; core++) {
            Check.equal("queueLength(" + core + ")", q.queueLength(core), due[core].length);
            for (int k = 0; k < q.queueLength(core) && k < due[core].length; k++) {
                Check.equal("queued(" + core + ", " + k + ")", q.queued(core, k), due[core][k]);
            }
        }
    }

    private static void setPriority() {
        HardwareTaskQueue q = Check.queue(3, "queue 1 8 0;task 9 3;task 9 4;task 9 5;");
        for (int task : new int[] {-1, 3, 32, Integer.MAX_VALUE, Integer.MIN_VALUE}) {
            Check.index("setPriority(" + task + ", 10)", () -> q.setPriority(task, 10));
        }
        for (int priority : new int[] {-1, 10, Integer.MAX_VALUE, Integer.MIN_VALUE}) {
            Check.argument("setPriority(0, " + priority + ")", () -> q.setPriority(0, priority));
        }
        Check.equal("setPriority(0, 9)", q.setPriority(0, 9), 3);
        Check.equal("setPriority(0, 8)", q.setPriority(0, 8), 9);
        Check.equal("priority(0)", q.priority(0), 8);
        q.run(1);
        Check.equal("the order follows it", q.running(0), 0);
        Check.equal("setPriority(1, 0)", q.setPriority(1, 0), 4);
        Check.equal("setPriority(1, 9)", q.setPriority(1, 9), 0);
        Check.equal("a queue keeps its order", q.queued(0, 0), 2);
        q.run(100);
        Check.equal("of a done task", q.setPriority(2, 0), 5);
        Check.equal("priority(2)", q.priority(2), 0);
    }

    private static void pause() {
        HardwareTaskQueue q = Check.queue(0, "queue 2 1 0;");
        for (int core : new int[] {-1, 2, 4, Integer.MAX_VALUE, Integer.MIN_VALUE}) {
            Check.index("pause(" + core + ")", () -> q.pause(core, true));
        }
        Check.equal("pause(1, false)", q.pause(1, false), false);
        Check.equal("pause(1, true)", q.pause(1, true), false);
        Check.equal("pause(1, true)", q.pause(1, true), true);
        Check.equal("isPaused(1)", q.isPaused(1), true);
        Check.equal("isPaused(0)", q.isPaused(0), false);
        Check.equal("undo, a pause that changes nothing is a change, too", q.undo(), 3);
        Check.equal("isPaused(1)", q.isPaused(1), true);
        Check.equal("undo", q.undo(), 2);
        Check.equal("isPaused(1)", q.isPaused(1), false);
    }

    private static void undoOfEach() {
        HardwareTaskQueue q = Check.queue(3, "queue 2 2 3;task 4 3;fence;task 4 4;task 4 5 after 0;");
        long loaded = q.checksum();
        q.run(7);
        long ran = q.checksum();
        q.submit(3, 3, 1);
        long submitted = q.checksum();
        q.depend(3, 0);
        q.depend(3, 2);
        long depended = q.checksum();
        q.cancel(3);
        q.setPriority(2, 0);
        q.pause(1, true);
        Check.equal("undo pause", q.undo(), 7);
        Check.equal("isPaused", q.isPaused(1), false);
        Check.equal("undo setPriority", q.undo(), 6);
        Check.equal("priority", q.priority(2), 5);
        Check.equal("undo cancel", q.undo(), 5);
        Check.equal("checksum", q.checksum(), depended);
        Check.equal("undo depend", q.undo(), 4);
        Check.equal("undo depend", q.undo(), 3);
        Check.equal("checksum", q.checksum(), submitted);
        Check.equal("the predecessor can be added again", q.depend(3, 0), 0);
        Check.equal("undo depend", q.undo(), 3);
        Check.equal("undo submit", q.undo(), 2);
        Check.equal("checksum", q.checksum(), ran);
        Check.equal("coreOf", q.coreOf(0), 0);
        Check.equal("doneAt", q.doneAt(0), 4);
        Check.equal("undo run", q.undo(), 1);
        Check.equal("checksum", q.checksum(), loaded);
        Check.equal("coreOf", q.coreOf(0), -1);
        Check.equal("doneAt", q.doneAt(0), -1);
        Check.equal("undo load", q.undo(), 0);
        Check.equal("checksum", q.checksum(), 0);
        Check.equal("undo of nothing", q.undo(), -1);
    }

    private static void undoOfEight() {
        HardwareTaskQueue q = Check.queue(0, "queue 1 1 0;");
        for (int i = 0; i < 20; i++) {
            q.run(1);
        }
        for (int i = 7; i >= 0; i--) {
            Check.equal("undo", q.undo(), i);
            Check.equal("clock", q.clock(), 12 + i);
        }
        Check.equal("undo", q.undo(), -1);
        Check.equal("clock", q.clock(), 12);
        for (int i = 0; i < 3; i++) {
            q.run(10);
        }
        Check.equal("undo", q.undo(), 2);
        q.run(1);
        Check.equal("clock", q.clock(), 33);
        Check.equal("undo", q.undo(), 2);
        Check.equal("undo", q.undo(), 1);
        Check.equal("clock", q.clock(), 22);
        Check.state("a throw", () -> new HardwareTaskQueue().run(1));
        Check.argument("a throw", () -> q.run(0));
        Check.index("a throw", () -> q.pause(1, true));
        Check.equal("throws are no changes", q.undo(), 0);
    }

    private static void undoAndInput() {
        HardwareTaskQueue q = Check.queue(0, "queue 1 1 0;");
        q.run(5);
        Check.equal("an error", Check.load(q, "queue 9 1 1;"), HardwareTaskQueue.OUT_OF_RANGE);
        Check.feed(q, "queue 3 1 0;");
        Check.equal("an error and an append are no changes", q.undo(), 1);
        Check.equal("clock", q.clock(), 0);
        Check.equal("errorOffset stays", q.errorOffset(), 6);
        Check.equal("the buffer stays", q.load(12), 0);
        Check.equal("coreCount", q.coreCount(), 3);
        Check.equal("errorOffset", q.errorOffset(), -1);
        Check.equal("undo", q.undo(), 1);
        Check.equal("coreCount", q.coreCount(), 1);
    }

    private static void undoOfLoad() {
        HardwareTaskQueue q = Check.queue(2, "queue 3 2 3;task 4 3;fence;task 4 4;");
        q.pause(2, true);
        q.run(3);
        long sum = q.checksum();
        Check.load(q, "queue 1 8 0;task 1 1;task 1 1;task 1 1;task 1 1;");
        q.run(2);
        q.undo();
        Check.equal("undo load", q.undo(), 3);
        Check.equal("checksum", q.checksum(), sum);
        Check.equal("fenceCount", q.fenceCount(), 1);
        Check.equal("isPaused", q.isPaused(2), true);
        Check.equal("timeOn", q.timeOn(1, 500), 9);
    }

    private static void checksum() {
        HardwareTaskQueue q = Check.queue(4, "queue 2 8 1;task 5 3 core 1;task 6 4 core 1;"
                + "task 7 5 core 1;task 8 6 core 1 after 0;");
        q.pause(0, true);
        q.run(2);
        // Core 1 runs task 2 with 6 left, tasks 1 and 0 are in its queue.
        long[] numbers = {2, 0, 2, 3, 0, 2, 4, 0, 3, 5, 0, 0, 6, 1,
            -1, 0, 0, 0, 1, 0, 2, 6, 2, 0};
        long due = 0;
        for (long number : numbers) {
            due = 31 * due + number;
        }
        Check.equal("checksum", q.checksum(), due);
        q.undo();
        q.pause(1, true);
        q.run(1);
        due = 0;
        for (long number : new long[] {1, 0, 2, 3, 0, 2, 4, 0, 2, 5, 0, 0, 6, 1,
            -1, 0, 0, 0, 2, 1, 0, -1, 0, 0, 0}) {
            due = 31 * due + number;
        }
        Check.equal("checksum with a queue of three", q.checksum(), due);
        HardwareTaskQueue thief = Check.queue(1, "queue 2 8 2;task 5 3 core 1;");
        thief.run(1);
        due = 0;
        for (long number : new long[] {1, 0, 3, 3, 0, 0, 7, 1, 1, -1, 0, 0, 0}) {
            due = 31 * due + number;
        }
        Check.equal("checksum with a theft", thief.checksum(), due);
        thief.run(7);
        due = 0;
        for (long number : new long[] {8, 1, 4, 3, 0, -1, 0, 7, 1, -1, 0, 0, 0}) {
            due = 31 * due + number;
        }
        Check.equal("checksum at the end", thief.checksum(), due);
    }
}
