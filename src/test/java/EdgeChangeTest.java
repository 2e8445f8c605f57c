/** The edges that promises 26 to 31 name: run, submit, depend, cancel, setPriority and pause. */
public final class EdgeChangeTest {
    private static final int WAITING = HardwareTaskQueue.WAITING;
    private static final int READY = HardwareTaskQueue.READY;
    private static final int QUEUED = HardwareTaskQueue.QUEUED;
    private static final int RUNNING = HardwareTaskQueue.RUNNING;
    private static final int DONE = HardwareTaskQueue.DONE;
    private static final int CANCELLED = HardwareTaskQueue.CANCELLED;
    private static final int[] FAR = {Integer.MIN_VALUE, -1, 7, 8, 32, 33, 64, Integer.MAX_VALUE};
    private static final int[] NO_CORES = {Integer.MIN_VALUE, -1, 2, 4, 32, Integer.MAX_VALUE};
    private static final int[] WRONG_PRIORITIES = {Integer.MIN_VALUE, -1, 10, Integer.MAX_VALUE};

    public static void main(String[] args) {
        cycles();
        becameDone();
        wrongCycles();
        runWithoutCores();
        clockLimit();
        addsTask();
        submittedAfterFences();
        submitRanges();
        submitWithoutCore();
        wrongSubmits();
        submitBeyondMost();
        submitOrder();
        addsPredecessor();
        dependIndexes();
        notEarlier();
        alreadyPredecessor();
        dependStates();
        dependOrder();
        cancels();
        cancelInQueue();
        cancelIndexes();
        cancelStates();
        setsPriority();
        priorityInEachState();
        wrongPriorities();
        pauses();
        pausedGoesOn();
        wrongPauses();
        Check.end();
    }

    private static void cycles() {
        Check.about("Simulates cycles. cycles: 1 to 200");
        for (int cycles : new int[] {1, 2, 199, 200}) {
            HardwareTaskQueue q = Makers.of("queue 1 8 0;task 99 1;length 999;");
            Check.equal("run", q.run(cycles), 0);
            Check.equal("clock", q.clock(), cycles);
            Check.equal("busy", q.busy(0), cycles);
            Check.equal("remaining", q.remaining(0), 1000 - cycles);
        }
        HardwareTaskQueue one = Makers.busy();
        HardwareTaskQueue many = Makers.busy();
        one.run(40);
        for (int i = 0; i < 40; i++) {
            many.run(1);
        }
        Check.equal("40 cycles at once and one by one", Twins.sight(one), Twins.sight(many));
    }

    private static void becameDone() {
        Check.about("Returns the number of tasks that became DONE.");
        HardwareTaskQueue q = Makers.of("queue 1 8 0;" + "task 1 1;".repeat(32));
        Check.equal("none in the first cycle", q.run(1), 0);
        Check.equal("one a cycle", q.run(1), 1);
        Check.equal("thirty", q.run(30), 30);
        Check.equal("the last one", q.run(1), 1);
        Check.equal("none is left", q.run(200), 0);
        HardwareTaskQueue all = Makers.of("queue 4 8 0;" + "task 1 1;".repeat(32));
        Check.equal("32 at once", all.run(200), 32);
        HardwareTaskQueue cancelled = Makers.of("queue 1 8 0;task 1 1;task 1 1;");
        cancelled.cancel(0);
        Check.equal("a cancelled one does not count", cancelled.run(200), 1);
        Check.equal("no tasks", Makers.of("queue 1 8 0;").run(1), 0);
    }

    private static void wrongCycles() {
        Check.about("Throws IllegalArgumentException if cycles is out of range");
        for (int cycles : new int[] {Integer.MIN_VALUE, -200, -1, 0, 201, 100001,
            Integer.MAX_VALUE}) {
            Twins.argument("run(" + cycles + ")", HardwareTaskQueue::new, q -> q.run(cycles));
            Twins.argument("run(" + cycles + ")", Makers::busy, q -> q.run(cycles));
            Twins.argument("run(" + cycles + ")", Makers::full, q -> q.run(cycles));
            Twins.argument("run(" + cycles + ")", () -> late(100000), q -> q.run(cycles));
        }
    }

    private static void runWithoutCores() {
        Check.about("Throws IllegalStateException if there are no cores, ...");
        Twins.state("run(1)", HardwareTaskQueue::new, q -> q.run(1));
        Twins.state("run(200)", HardwareTaskQueue::new, q -> q.run(200));
        Twins.state("run(1) after an error", () -> Makers.of("queue 1 1 1"), q -> q.run(1));
        HardwareTaskQueue q = Makers.of("queue 1 1 1;");
        Check.equal("one core is enough", q.run(1), 0);
        q.undo();
        q.undo();
        Check.state("run(1) after undo", () -> q.run(1));
    }

    /** A queue with one task at this clock. */
    private static HardwareTaskQueue late(int clock) {
        HardwareTaskQueue q = Makers.of("queue 1 8 0;");
        for (int left = clock; left > 0; left -= 200) {
            q.run(Math.min(200, left));
        }
        q.submit(5, 1, 0);
        return q;
    }

    private static void clockLimit() {
        Check.about("... or if the clock would exceed 100000");
        Twins.state("run(1) at 100000", () -> late(100000), q -> q.run(1));
        Twins.state("run(200) at 100000", () -> late(100000), q -> q.run(200));
        Twins.state("run(2) at 99999", () -> late(99999), q -> q.run(2));
        Twins.state("run(200) at 99801", () -> late(99801), q -> q.run(200));
        int[][] allowed = {{99999, 1}, {99998, 1}, {99801, 199}, {99800, 200}};
        for (int[] row : allowed) {
            HardwareTaskQueue q = late(row[0]);
            q.run(row[1]);
            Check.equal("clock", q.clock(), row[0] + row[1]);
        }
        HardwareTaskQueue q = late(100000);
        Check.equal("other changes are allowed", q.cancel(0), WAITING);
        q.undo();
        q.undo();
        q.undo();
        Check.equal("clock after undo", q.clock(), 99800);
        Check.equal("run again", q.run(200), 0);
        Check.equal("a load begins anew", Check.load(q, "queue 1 1 1;"), 0);
        Check.equal("run", q.run(200), 0);
        Check.equal("clock", q.clock(), 200);
    }

    private static void addsTask() {
        Check.about("Adds a task that is WAITING and has no predecessors; ... Returns its index.");
        HardwareTaskQueue q = Makers.of("queue 2 8 0;");
        for (int t = 0; t < 32; t++) {
            Check.equal("submit", q.submit(1 + t, t % 10, t % 2), t);
            Check.equal("taskCount", q.taskCount(), t + 1);
            Check.equal("state", q.state(t), WAITING);
            Check.equal("counter", q.counter(t), 0);
            Check.equal("priority", q.priority(t), t % 10);
            Check.equal("coreOf", q.coreOf(t), -1);
            Check.equal("doneAt", q.doneAt(t), -1);
            Check.equal("criticalPath", q.criticalPath(), 1 + t);
        }
        // The place of a task that was taken away by undo keeps nothing of it.
        HardwareTaskQueue again = Makers.of("queue 2 8 0;task 1 1;");
        again.submit(9, 9, 1);
        again.depend(1, 0);
        again.run(20);
        again.undo();
        again.undo();
        again.undo();
        Check.equal("submit again", again.submit(3, 3, 0), 1);
        Check.equal("state", again.state(1), WAITING);
        Check.equal("counter", again.counter(1), 0);
        Check.equal("coreOf", again.coreOf(1), -1);
        Check.equal("doneAt", again.doneAt(1), -1);
        Check.equal("a predecessor", again.depend(1, 0), 1);
    }

    private static void submittedAfterFences() {
        Check.about("... it is after all fences.");
        HardwareTaskQueue none = Makers.of("queue 1 8 0;task 9 1;");
        none.submit(1, 1, 0);
        Check.equal("no fence", none.counter(1), 0);
        HardwareTaskQueue most = Makers.of("queue 1 8 0;task 9 1;" + "fence;".repeat(8));
        most.submit(1, 1, 0);
        Check.equal("eight fences", most.counter(1), 8);
        most.submit(1, 1, 0);
        Check.equal("not after the submitted one", most.counter(2), 8);
        most.cancel(0);
        Check.equal("all open", most.counter(2), 0);
        HardwareTaskQueue open = Makers.of("queue 1 8 0;fence;");
        open.submit(1, 1, 0);
        Check.equal("an open fence", open.counter(0), 0);
        Check.equal("it stays open", open.isOpen(0), true);
    }

    private static void submitRanges() {
        Check.about("duration: 1 to 99; priority: 0 to 9; core: its home core");
        int[][] allowed = {{1, 0, 0}, {1, 9, 3}, {99, 0, 3}, {99, 9, 0}, {2, 1, 1}, {98, 8, 2}};
        for (int[] task : allowed) {
            HardwareTaskQueue q = Makers.of("queue 4 8 0;");
            Check.equal("submit", q.submit(task[0], task[1], task[2]), 0);
            Check.equal("duration", q.criticalPath(), task[0]);
            Check.equal("priority", q.priority(0), task[1]);
            for (int c = 0; c < 4; c++) {
                q.pause(c, true);
            }
            q.run(1);
            Expect.queue(q, task[2], 0);
        }
    }

    private static void submitWithoutCore() {
        Check.about("Throws IndexOutOfBoundsException if there is no such core");
        for (int core : NO_CORES) {
            Twins.index("core " + core, HardwareTaskQueue::new, q -> q.submit(1, 1, core));
            Twins.index("core " + core, Makers::busy, q -> q.submit(1, 1, core));
        }
        Twins.index("core 0 of none", HardwareTaskQueue::new, q -> q.submit(1, 1, 0));
        for (int cores = 1; cores <= 4; cores++) {
            int none = cores;
            Twins.index("core " + none + " of " + none, () -> Makers.of("queue " + none + " 8 0;"),
                    q -> q.submit(1, 1, none));
        }
        Check.equal("core 0", Makers.busy().submit(1, 1, 0), 7);
        Check.equal("core 1", Makers.busy().submit(1, 1, 1), 7);
    }

    private static void wrongSubmits() {
        Check.about("Throws IllegalArgumentException if duration or priority is out of range");
        for (int duration : new int[] {Integer.MIN_VALUE, -1, 0, 100, Integer.MAX_VALUE}) {
            Twins.argument("duration " + duration, Makers::busy, q -> q.submit(duration, 1, 0));
        }
        for (int priority : WRONG_PRIORITIES) {
            Twins.argument("priority " + priority, Makers::busy, q -> q.submit(1, priority, 0));
            Twins.argument("both", Makers::busy, q -> q.submit(0, priority, 1));
        }
    }

    private static void submitBeyondMost() {
        Check.about("Throws IllegalStateException if there are 32 tasks");
        Twins.state("32 tasks", Makers::full, q -> q.submit(1, 1, 0));
        Twins.state("32 tasks", Makers::full, q -> q.submit(99, 9, 3));
        Twins.Maker finished = () -> {
            HardwareTaskQueue q = Makers.of("queue 4 8 0;" + "task 1 1;".repeat(32));
            q.run(200);
            return q;
        };
        Twins.state("32 finished tasks", finished, q -> q.submit(1, 1, 0));
        HardwareTaskQueue q = Makers.of("queue 4 8 0;" + "task 1 1;".repeat(31));
        Check.equal("31 tasks", q.submit(1, 1, 0), 31);
        Check.state("32 tasks", () -> q.submit(1, 1, 0));
        q.undo();
        Check.equal("31 tasks again", q.submit(1, 1, 0), 31);
    }

    private static void submitOrder() {
        Check.about("If several exceptions apply to a call, the one that is listed first with the"
                + " method is thrown.");
        Twins.index("core before duration", Makers::busy, q -> q.submit(0, 1, 2));
        Twins.index("core before priority", Makers::busy, q -> q.submit(1, 10, -1));
        Twins.index("core before 32 tasks", Makers::full, q -> q.submit(1, 1, 4));
        Twins.index("core before all", Makers::full, q -> q.submit(0, 10, 4));
        Twins.argument("duration before 32 tasks", Makers::full, q -> q.submit(100, 1, 3));
        Twins.argument("priority before 32 tasks", Makers::full, q -> q.submit(1, -1, 3));
    }

    private static void addsPredecessor() {
        Check.about("Adds a predecessor to a task. Returns the counter of the task then.");
        HardwareTaskQueue q = Makers.of("queue 1 8 0;" + "task 1 1;".repeat(32));
        for (int on = 30; on >= 0; on--) {
            Check.equal("depend(31, " + on + ")", q.depend(31, on), 31 - on);
            Check.equal("counter", q.counter(31), 31 - on);
        }
        HardwareTaskQueue other = Makers.of("queue 1 8 0;task 1 1;task 1 1;fence;task 1 1;");
        Check.equal("with a fence", other.depend(2, 1), 2);
        other.cancel(0);
        Check.equal("a finished predecessor", other.depend(2, 0), 2);
        other.cancel(1);
        Check.equal("counter", other.counter(2), 0);
        HardwareTaskQueue first = Makers.of("queue 1 8 0;task 9 1;task 9 9;");
        Check.equal("depend(1, 0)", first.depend(1, 0), 1);
        first.run(1);
        Check.equal("it waits", first.state(1), WAITING);
        Check.equal("the other runs", first.running(0), 0);
    }

    private static void dependIndexes() {
        Check.about("Throws IndexOutOfBoundsException if there is no such task, or if on is negative");
        for (int task : FAR) {
            Twins.index("depend(" + task + ", 0)", HardwareTaskQueue::new, q -> q.depend(task, 0));
            Twins.index("depend(" + task + ", 0)", Makers::busy, q -> q.depend(task, 0));
        }
        Twins.index("depend(0, 0) of none", HardwareTaskQueue::new, q -> q.depend(0, 0));
        Twins.index("depend(32, 31) of 32", Makers::full, q -> q.depend(32, 31));
        for (int on : new int[] {-1, -32, Integer.MIN_VALUE}) {
            Twins.index("depend(5, " + on + ")", Makers::busy, q -> q.depend(Makers.WAITING, on));
            Twins.index("depend(31, " + on + ")", Makers::full, q -> q.depend(31, on));
        }
        Check.equal("the last task", Makers.full().depend(31, 30) > 0, true);
        Check.equal("on the first one", Makers.busy().depend(Makers.WAITING, 0), 1);
    }

    private static void notEarlier() {
        Check.about("Throws IllegalArgumentException if on is not less than task, ...");
        int task = Makers.WAITING;
        Check.equal("one less", Makers.busy().depend(task, task - 1), 2);
        for (int on : new int[] {task, task + 1, 7, 31, 32, 32 + task - 1, Integer.MAX_VALUE}) {
            Twins.argument("depend(5, " + on + ")", Makers::busy, q -> q.depend(task, on));
        }
        Twins.argument("depend(0, 0)", Makers::busy, q -> q.depend(0, 0));
        Twins.argument("depend(31, 31)", Makers::full, q -> q.depend(31, 31));
        Twins.argument("depend(31, 32)", Makers::full, q -> q.depend(31, 32));
    }

    private static void alreadyPredecessor() {
        Check.about("... or if it is a predecessor of the task already");
        String text = "queue 1 8 0;task 1 1;task 1 1;task 1 1 after 0;task 1 1;";
        Twins.argument("by the text", () -> Makers.of(text), q -> q.depend(2, 0));
        Check.equal("another one", Makers.of(text).depend(2, 1), 2);
        Twins.Maker depended = () -> {
            HardwareTaskQueue q = Makers.of(text);
            q.depend(3, 1);
            return q;
        };
        Twins.argument("by depend", depended, q -> q.depend(3, 1));
        Check.equal("another one", depended.make().depend(3, 2), 2);
        Twins.Maker finished = () -> {
            HardwareTaskQueue q = Makers.of(text);
            q.cancel(0);
            return q;
        };
        Twins.argument("a finished one", finished, q -> q.depend(2, 0));
        HardwareTaskQueue undone = depended.make();
        undone.undo();
        Check.equal("after undo", undone.depend(3, 1), 1);
        HardwareTaskQueue last = Makers.of("queue 1 8 0;" + "task 1 1;".repeat(32));
        Check.equal("depend(31, 30)", last.depend(31, 30), 1);
        Check.argument("depend(31, 30) again", () -> last.depend(31, 30));
    }

    private static void dependStates() {
        Check.about("Throws IllegalStateException if the task is not WAITING");
        int[] others = {Makers.RUNNING, Makers.QUEUED, Makers.READY, Makers.CANCELLED};
        for (int task : others) {
            Twins.state("depend(" + task + ", 1 less)", Makers::busy, q -> q.depend(task, task - 1));
        }
        Twins.Maker done = () -> {
            HardwareTaskQueue q = Makers.of("queue 2 8 0;task 9 1;task 1 1;task 1 1 after 0;");
            q.run(2);
            return q;
        };
        Check.equal("state", done.make().state(1), DONE);
        Twins.state("of a task that is DONE", done, q -> q.depend(1, 0));
        Check.equal("of a task that is WAITING", done.make().depend(2, 1), 1);
        Twins.Maker free = () -> {
            HardwareTaskQueue q = Makers.busy();
            q.cancel(Makers.READY);
            return q;
        };
        Check.equal("of a WAITING task behind a closed fence", free.make().depend(5, 4), 1);
    }

    private static void dependOrder() {
        Check.about("If several exceptions apply to a call, the one that is listed first with the"
                + " method is thrown.");
        Twins.index("no task, on not less", Makers::busy, q -> q.depend(7, 7));
        Twins.index("no task, on negative", Makers::busy, q -> q.depend(-1, -1));
        Twins.index("negative, not WAITING", Makers::busy, q -> q.depend(Makers.DONE, -1));
        Twins.argument("not less, not WAITING", Makers::busy, q -> q.depend(Makers.DONE, 0));
        Twins.argument("not less, not WAITING", Makers::busy, q -> q.depend(Makers.QUEUED, 6));
        // Task 6 has predecessors 0 and 2 and is CANCELLED.
        Twins.argument("already, not WAITING", Makers::busy, q -> q.depend(Makers.CANCELLED, 2));
        Twins.state("not WAITING alone", Makers::busy, q -> q.depend(Makers.CANCELLED, 1));
    }

    private static void cancels() {
        Check.about("Cancels a task; ... Returns its state before.");
        HardwareTaskQueue waiting = Makers.busy();
        Check.equal("WAITING", waiting.cancel(Makers.WAITING), WAITING);
        Check.equal("state", waiting.state(Makers.WAITING), CANCELLED);
        HardwareTaskQueue ready = Makers.busy();
        Check.equal("READY", ready.cancel(Makers.READY), READY);
        Check.equal("state", ready.state(Makers.READY), CANCELLED);
        HardwareTaskQueue queued = Makers.busy();
        Check.equal("QUEUED", queued.cancel(Makers.QUEUED), QUEUED);
        Check.equal("state", queued.state(Makers.QUEUED), CANCELLED);
        HardwareTaskQueue all = Makers.of("queue 1 8 0;" + "task 1 1;".repeat(32));
        for (int t = 31; t >= 0; t--) {
            Check.equal("cancel(" + t + ")", all.cancel(t), WAITING);
        }
        Check.equal("nothing is left to run", all.run(200), 0);
    }

    private static void cancelInQueue() {
        Check.about("... if it is in a queue, it is removed from it.");
        for (int place = 0; place < 8; place++) {
            HardwareTaskQueue q = Makers.of("queue 2 8 0;" + "task 1 1 core 1;".repeat(8));
            q.pause(0, true);
            q.pause(1, true);
            q.run(1);
            q.cancel(place);
            Check.equal("queueLength", q.queueLength(1), 7);
            for (int k = 0; k < 7; k++) {
                Check.equal("queued", q.queued(1, k), k < place ? k : k + 1);
            }
            Check.index("queued(1, 7)", () -> q.queued(1, 7));
            Check.equal("the other queue", q.queueLength(0), 0);
        }
        HardwareTaskQueue one = Makers.busy();
        one.cancel(Makers.QUEUED);
        Check.equal("the only one of a queue", one.queueLength(1), 0);
        HardwareTaskQueue none = Makers.busy();
        none.cancel(Makers.WAITING);
        Expect.queue(none, 1, Makers.QUEUED);
    }

    private static void cancelIndexes() {
        Check.about("Throws IndexOutOfBoundsException if there is no such task");
        for (int task : FAR) {
            Twins.index("cancel(" + task + ")", HardwareTaskQueue::new, q -> q.cancel(task));
            Twins.index("cancel(" + task + ")", Makers::busy, q -> q.cancel(task));
        }
        Twins.index("cancel(0) of none", HardwareTaskQueue::new, q -> q.cancel(0));
        Twins.index("cancel(32) of 32", Makers::full, q -> q.cancel(32));
        Check.equal("cancel(31) of 32", Makers.full().cancel(31), WAITING);
    }

    private static void cancelStates() {
        Check.about("Throws IllegalStateException if it is RUNNING, DONE or CANCELLED");
        Twins.state("RUNNING", Makers::busy, q -> q.cancel(Makers.RUNNING));
        Twins.state("DONE", Makers::busy, q -> q.cancel(Makers.DONE));
        Twins.state("CANCELLED", Makers::busy, q -> q.cancel(Makers.CANCELLED));
    }

    private static void setsPriority() {
        Check.about("Sets the priority of a task. priority: 0 to 9. Returns the previous priority.");
        HardwareTaskQueue q = Makers.of("queue 1 8 0;task 1 5;task 1 5;");
        int before = 5;
        for (int priority : new int[] {0, 1, 8, 9, 9, 0}) {
            Check.equal("setPriority", q.setPriority(1, priority), before);
            Check.equal("priority(1)", q.priority(1), priority);
            Check.equal("priority(0)", q.priority(0), 5);
            before = priority;
        }
        q.setPriority(1, 6);
        q.run(1);
        Check.equal("one more than the other", q.running(0), 1);
        HardwareTaskQueue less = Makers.of("queue 1 8 0;task 1 5;task 1 6;");
        less.setPriority(1, 4);
        less.run(1);
        Check.equal("one less than the other", less.running(0), 0);
        HardwareTaskQueue equal = Makers.of("queue 1 8 0;task 1 5;task 1 6;");
        equal.setPriority(1, 5);
        equal.run(1);
        Check.equal("equal to the other", equal.running(0), 0);
    }

    private static void priorityInEachState() {
        Check.about("Sets the priority of a task.");
        for (int task = 0; task < 7; task++) {
            HardwareTaskQueue q = Makers.busy();
            int state = q.state(task);
            int before = q.priority(task);
            Check.equal("setPriority", q.setPriority(task, 1), before);
            Check.equal("priority", q.priority(task), 1);
            Check.equal("the state stays", q.state(task), state);
            Check.equal("undo", q.undo(), 4);
            Check.equal("priority", q.priority(task), before);
        }
    }

    private static void wrongPriorities() {
        Check.about("Throws IndexOutOfBoundsException if there is no such task; throws"
                + " IllegalArgumentException if priority is out of range");
        for (int task : FAR) {
            Twins.index("setPriority(" + task + ", 1)", HardwareTaskQueue::new,
                    q -> q.setPriority(task, 1));
            Twins.index("setPriority(" + task + ", 1)", Makers::busy, q -> q.setPriority(task, 1));
            Twins.index("setPriority(" + task + ", 10)", Makers::busy, q -> q.setPriority(task, 10));
            Twins.index("setPriority(" + task + ", -1)", Makers::busy, q -> q.setPriority(task, -1));
        }
        Twins.index("setPriority(0, 1) of none", HardwareTaskQueue::new, q -> q.setPriority(0, 1));
        Twins.index("setPriority(32, 1) of 32", Makers::full, q -> q.setPriority(32, 1));
        for (int priority : WRONG_PRIORITIES) {
            Twins.argument("setPriority(0, " + priority + ")", Makers::busy,
                    q -> q.setPriority(0, priority));
            Twins.argument("setPriority(31, " + priority + ")", Makers::full,
                    q -> q.setPriority(31, priority));
        }
    }

    private static void pauses() {
        Check.about("Pauses a core or lets it go on. ... Returns whether it was paused.");
        HardwareTaskQueue q = Makers.of("queue 4 8 0;");
        for (int core : new int[] {0, 3}) {
            Check.equal("pause(false) of one that is not", q.pause(core, false), false);
            Check.equal("pause(true) of one that is not", q.pause(core, true), false);
            Check.equal("isPaused", q.isPaused(core), true);
            Check.equal("pause(true) of one that is", q.pause(core, true), true);
            Check.equal("isPaused", q.isPaused(core), true);
            Check.equal("pause(false) of one that is", q.pause(core, false), true);
            Check.equal("isPaused", q.isPaused(core), false);
        }
        Check.equal("isPaused(1)", q.isPaused(1), false);
        Check.equal("isPaused(2)", q.isPaused(2), false);
    }

    private static void pausedGoesOn() {
        Check.about("A paused core goes on running its task, but takes no other one.");
        HardwareTaskQueue q = Makers.of("queue 2 8 0;task 2 9 core 0;task 9 8 core 0;"
                + "task 9 1 core 1;task 9 1 core 1;");
        q.run(1);
        q.pause(0, true);
        q.run(1);
        Expect.core(q, 0, 0, 1, 2, 0);
        q.run(1);
        Expect.core(q, 0, -1, 0, 2, 0);
        Expect.queue(q, 0, 1);
        q.run(3);
        Expect.core(q, 0, -1, 0, 2, 0);
        Check.equal("state(1)", q.state(1), QUEUED);
        q.cancel(1);
        q.run(1);
        // Nor does it steal.
        Expect.core(q, 0, -1, 0, 2, 0);
        Expect.queue(q, 1, 3);
        q.pause(0, false);
        q.run(1);
        Expect.core(q, 0, 3, 9, 3, 1);
        Check.equal("state(3)", q.state(3), RUNNING);
    }

    private static void wrongPauses() {
        Check.about("Throws IndexOutOfBoundsException if there is no such core");
        for (int core : NO_CORES) {
            Twins.index("pause(" + core + ", true)", HardwareTaskQueue::new, q -> q.pause(core, true));
            Twins.index("pause(" + core + ", true)", Makers::busy, q -> q.pause(core, true));
            Twins.index("pause(" + core + ", false)", Makers::busy, q -> q.pause(core, false));
        }
        Twins.index("pause(0) of none", HardwareTaskQueue::new, q -> q.pause(0, true));
        Twins.index("pause(4) of four", Makers::full, q -> q.pause(4, true));
        Check.equal("pause(3) of four", Makers.full().pause(3, true), false);
    }
}
