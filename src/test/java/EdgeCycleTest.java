/** The edges that "One cycle consists of these steps" of the document names, step by step. */
public final class EdgeCycleTest {
    private static final int WAITING = HardwareTaskQueue.WAITING;
    private static final int READY = HardwareTaskQueue.READY;
    private static final int QUEUED = HardwareTaskQueue.QUEUED;
    private static final int RUNNING = HardwareTaskQueue.RUNNING;
    private static final int DONE = HardwareTaskQueue.DONE;

    public static void main(String[] args) {
        remainingTime();
        doneTogether();
        becomeReady();
        readyAfterCancel();
        byPriority();
        byIndex();
        olderReadyTasks();
        homeQueue();
        shortestQueue();
        smallestCore();
        allFull();
        becomesQueued();
        increasingOrder();
        takesFirst();
        pausedTakesNothing();
        ownQueueFirst();
        stealsLast();
        longestQueue();
        nothingToSteal();
        pausedQueuesCount();
        becomesRunning();
        clockIncreases();
        Check.end();
    }

    /** A queue whose cores are all paused, after one cycle. */
    private static HardwareTaskQueue queuedOnly(int tasks, String text) {
        HardwareTaskQueue q = Check.queue(tasks, text);
        for (int c = 0; c < q.coreCount(); c++) {
            q.pause(c, true);
        }
        q.run(1);
        return q;
    }

    private static void remainingTime() {
        Check.about("(1) The remaining time of each running task decreases by 1. Tasks whose"
                + " remaining time is 0 then become DONE.");
        HardwareTaskQueue q = Check.queue(3, "queue 3 8 0;task 1 1;task 2 1;task 3 1;");
        q.run(1);
        Expect.core(q, 0, 0, 1, 1, 0);
        Expect.core(q, 1, 1, 2, 1, 0);
        Expect.core(q, 2, 2, 3, 1, 0);
        // A paused core's running task goes on.
        q.pause(2, true);
        q.run(1);
        Expect.states(q, DONE, RUNNING, RUNNING);
        Expect.core(q, 0, -1, 0, 1, 0);
        Expect.core(q, 1, 1, 1, 2, 0);
        Expect.core(q, 2, 2, 2, 2, 0);
        q.run(1);
        Expect.states(q, DONE, DONE, RUNNING);
        Expect.core(q, 2, 2, 1, 3, 0);
        q.run(1);
        Expect.states(q, DONE, DONE, DONE);
        Expect.core(q, 2, -1, 0, 3, 0);
    }

    private static void doneTogether() {
        Check.about("(1) Tasks whose remaining time is 0 then become DONE.");
        HardwareTaskQueue q = Check.queue(5,
                "queue 4 8 0;task 2 1;task 2 1;task 2 1;task 2 1;task 1 0 after 0 1 2 3;");
        Check.equal("run(2)", q.run(2), 0);
        Check.equal("four in one cycle", q.run(1), 4);
        Expect.states(q, DONE, DONE, DONE, DONE, RUNNING);
        for (int t = 0; t < 4; t++) {
            Check.equal("doneAt", q.doneAt(t), 2);
        }
    }

    private static void becomeReady() {
        Check.about("(2) Tasks that are WAITING and whose counter is 0 become READY.");
        HardwareTaskQueue q = Check.queue(4,
                "queue 1 1 0;task 1 9;task 5 8;task 1 7 after 0;task 1 6 after 0 1;");
        Expect.counters(q, 0, 0, 1, 2);
        q.run(1);
        Expect.states(q, RUNNING, READY, WAITING, WAITING);
        // Task 2 becomes READY in the cycle in which task 0 becomes DONE.
        q.run(1);
        Expect.counters(q, 0, 0, 0, 1);
        Expect.states(q, DONE, RUNNING, READY, WAITING);
        q.run(4);
        Expect.states(q, DONE, RUNNING, QUEUED, WAITING);
        q.run(1);
        Expect.states(q, DONE, DONE, RUNNING, READY);
    }

    private static void readyAfterCancel() {
        Check.about("(2) Tasks that are WAITING and whose counter is 0 become READY.");
        HardwareTaskQueue q = Check.queue(3, "queue 1 1 0;task 9 9;task 9 8;task 9 7 after 1;");
        q.run(2);
        Expect.states(q, RUNNING, QUEUED, WAITING);
        q.cancel(1);
        Check.equal("the counter is 0", q.counter(2), 0);
        Check.equal("not before the next cycle", q.state(2), WAITING);
        q.run(1);
        Check.equal("in the next cycle", q.state(2), QUEUED);
        // A cancelled task whose counter is 0 is not WAITING.
        Check.equal("state(1)", q.state(1), HardwareTaskQueue.CANCELLED);
    }

    private static void byPriority() {
        Check.about("(2) Then the READY tasks are treated in decreasing order of their priorities,"
                + " ...");
        Expect.queue(queuedOnly(2, "queue 1 8 0;task 1 4;task 1 5;"), 0, 1, 0);
        Expect.queue(queuedOnly(2, "queue 1 8 0;task 1 5;task 1 4;"), 0, 0, 1);
        Expect.queue(queuedOnly(2, "queue 1 8 0;task 1 0;task 1 9;"), 0, 1, 0);
        Expect.queue(queuedOnly(8, "queue 1 8 0;task 1 0;task 1 9;task 1 1;task 1 8;task 1 2;"
                + "task 1 7;task 1 3;task 1 6;"), 0, 1, 3, 5, 7, 6, 4, 2, 0);
    }

    private static void byIndex() {
        Check.about("(2) ... those with equal priorities in increasing order of their indexes.");
        for (int priority : new int[] {0, 9}) {
            String task = "task 1 " + priority + ";";
            Expect.queue(queuedOnly(8, "queue 1 8 0;" + task.repeat(8)), 0, 0, 1, 2, 3, 4, 5, 6, 7);
        }
        Expect.queue(queuedOnly(4, "queue 1 8 0;task 1 3;task 1 4;task 1 3;task 1 4;"), 0,
                1, 3, 0, 2);
    }

    /** It does not matter which task became READY first. */
    private static void olderReadyTasks() {
        Check.about("(2) Then the READY tasks are treated in decreasing order of their priorities,"
                + " those with equal priorities in increasing order of their indexes.");
        HardwareTaskQueue q = Check.queue(4,
                "queue 1 1 0;task 2 9;task 1 5 after 0;task 2 8;task 9 5;");
        q.run(2);
        Expect.states(q, RUNNING, WAITING, QUEUED, READY);
        q.run(2);
        // In the third cycle the queue was full; tasks 1 and 3 of one priority wait since then.
        Expect.states(q, DONE, QUEUED, RUNNING, READY);
        q.setPriority(3, 0);
        Check.equal("submit", q.submit(1, 1, 0), 4);
        q.run(1);
        Expect.states(q, DONE, RUNNING, DONE, READY, READY);
        q.run(1);
        Expect.states(q, DONE, DONE, DONE, READY, RUNNING);
    }

    private static void homeQueue() {
        Check.about("(2) Each one is put at the end of the queue of its home core if this queue is"
                + " not full; ...");
        // Core 2's queue is the longest one, and not full with one place left.
        HardwareTaskQueue q = queuedOnly(8, "queue 3 8 0;" + "task 1 1 core 2;".repeat(8));
        Expect.queue(q, 2, 0, 1, 2, 3, 4, 5, 6, 7);
        Expect.queue(q, 0);
        HardwareTaskQueue beyond = queuedOnly(9, "queue 3 8 0;" + "task 1 1 core 2;".repeat(9));
        Expect.queue(beyond, 2, 0, 1, 2, 3, 4, 5, 6, 7);
        Expect.queue(beyond, 0, 8);
        HardwareTaskQueue one = queuedOnly(2, "queue 2 1 0;task 1 1 core 1;task 1 1 core 1;");
        Expect.queue(one, 1, 0);
        Expect.queue(one, 0, 1);
    }

    private static void shortestQueue() {
        Check.about("(2) ... otherwise at the end of the shortest queue that is not full, ...");
        HardwareTaskQueue q = queuedOnly(8, "queue 4 3 0;task 1 9 core 0;task 1 9 core 0;"
                + "task 1 9 core 0;task 1 9 core 1;task 1 9 core 1;task 1 9 core 2;"
                + "task 1 9 core 3;task 1 9 core 3;");
        q.submit(1, 5, 0);
        q.run(1);
        Expect.queue(q, 2, 5, 8);
        HardwareTaskQueue last = queuedOnly(7, "queue 3 3 0;task 1 9 core 0;task 1 9 core 0;"
                + "task 1 9 core 0;task 1 9 core 1;task 1 9 core 1;task 1 9 core 2;"
                + "task 1 5 core 0;");
        Expect.queue(last, 2, 5, 6);
    }

    private static void smallestCore() {
        Check.about("(2) ... of several that of the smallest core; ...");
        HardwareTaskQueue q = queuedOnly(4, "queue 4 1 0;" + "task 1 1 core 2;".repeat(4));
        Expect.queue(q, 2, 0);
        Expect.queue(q, 0, 1);
        Expect.queue(q, 1, 2);
        Expect.queue(q, 3, 3);
    }

    private static void allFull() {
        Check.about("(2) ... if all queues are full, it stays READY.");
        HardwareTaskQueue q = queuedOnly(6,
                "queue 2 2 0;task 1 9;task 1 9;task 1 9;task 1 9;task 1 0;task 1 1;");
        Expect.states(q, QUEUED, QUEUED, QUEUED, QUEUED, READY, READY);
        q.run(5);
        Expect.states(q, QUEUED, QUEUED, QUEUED, QUEUED, READY, READY);
        q.cancel(1);
        q.run(1);
        Expect.states(q, QUEUED, HardwareTaskQueue.CANCELLED, QUEUED, QUEUED, READY, QUEUED);
        Expect.queue(q, 1, 3, 5);
        q.cancel(3);
        q.run(1);
        Expect.queue(q, 1, 5, 4);
    }

    private static void becomesQueued() {
        Check.about("(2) A task that is put into a queue becomes QUEUED.");
        HardwareTaskQueue q = queuedOnly(2, "queue 1 1 0;task 1 9;task 1 8;");
        Expect.states(q, QUEUED, READY);
        Expect.queue(q, 0, 0);
    }

    private static void increasingOrder() {
        Check.about("(3) The cores are treated in increasing order.");
        // Core 0 steals from core 1, so that core 1 finds a queue that is shorter by one.
        HardwareTaskQueue q = Check.queue(2, "queue 3 8 0;task 5 1 core 1;task 5 1 core 1;");
        q.run(1);
        Expect.core(q, 0, 1, 5, 1, 1);
        Expect.core(q, 1, 0, 5, 1, 0);
        Expect.core(q, 2, -1, 0, 0, 0);
        HardwareTaskQueue one = Check.queue(1, "queue 2 8 0;task 5 1 core 1;");
        one.run(1);
        Expect.core(one, 0, 0, 5, 1, 1);
        Expect.core(one, 1, -1, 0, 0, 0);
        // Core 0 has its own task, so that core 1 can steal only what core 0 left.
        HardwareTaskQueue own = Check.queue(1, "queue 2 8 0;task 5 1 core 0;");
        own.run(1);
        Expect.core(own, 0, 0, 5, 1, 0);
        Expect.core(own, 1, -1, 0, 0, 0);
    }

    private static void takesFirst() {
        Check.about("(3) A core that is not paused and runs no task takes the first task of its"
                + " queue.");
        HardwareTaskQueue q = Check.queue(3, "queue 1 8 0;task 2 7;task 2 9;task 2 8;");
        q.run(1);
        Check.equal("running", q.running(0), 1);
        Expect.queue(q, 0, 2, 0);
        q.run(1);
        Check.equal("it runs a task still", q.running(0), 1);
        Expect.queue(q, 0, 2, 0);
        q.run(1);
        Check.equal("in the cycle in which its task ended", q.running(0), 2);
        Expect.queue(q, 0, 0);
    }

    private static void pausedTakesNothing() {
        Check.about("(3) A core that is not paused ...");
        HardwareTaskQueue q = Check.queue(2, "queue 2 8 0;task 2 7 core 0;task 9 9 core 0;");
        q.pause(0, true);
        q.pause(1, true);
        q.run(3);
        Expect.core(q, 0, -1, 0, 0, 0);
        Expect.core(q, 1, -1, 0, 0, 0);
        q.pause(0, false);
        q.run(1);
        Expect.core(q, 0, 1, 9, 1, 0);
        Expect.core(q, 1, -1, 0, 0, 0);
    }

    private static void ownQueueFirst() {
        Check.about("(3) If its queue is empty, it steals ...");
        HardwareTaskQueue q = Check.queue(5, "queue 2 8 7;task 9 1 core 0;task 9 1 core 1;"
                + "task 9 1 core 1;task 9 1 core 1;task 9 1 core 1;");
        q.run(1);
        // One task of its own is enough.
        Expect.core(q, 0, 0, 9, 1, 0);
        q.run(9);
        Expect.core(q, 0, 4, 16, 10, 1);
    }

    private static void stealsLast() {
        Check.about("(3) ... it steals the last task of the longest queue, ...");
        HardwareTaskQueue one = Check.queue(1, "queue 2 8 0;task 9 1 core 1;");
        one.run(1);
        Expect.core(one, 0, 0, 9, 1, 1);
        HardwareTaskQueue eight = Check.queue(8, "queue 2 8 0;" + "task 9 1 core 1;".repeat(8));
        eight.run(1);
        Expect.core(eight, 0, 7, 9, 1, 1);
        Expect.queue(eight, 1, 1, 2, 3, 4, 5, 6);
    }

    private static void longestQueue() {
        Check.about("(3) ... the longest queue, of several that of the smallest core, ...");
        HardwareTaskQueue equal = Check.queue(4, "queue 3 8 0;task 9 1 core 1;task 9 1 core 1;"
                + "task 9 1 core 2;task 9 1 core 2;");
        equal.run(1);
        Check.equal("of equal ones the smaller core's", equal.running(0), 1);
        HardwareTaskQueue longer = Check.queue(5, "queue 3 8 0;task 9 1 core 1;task 9 1 core 1;"
                + "task 9 1 core 2;task 9 1 core 2;task 9 1 core 2;");
        longer.run(1);
        Check.equal("one task more", longer.running(0), 4);
        HardwareTaskQueue shorter = Check.queue(5, "queue 3 8 0;task 9 1 core 1;task 9 1 core 1;"
                + "task 9 1 core 1;task 9 1 core 2;task 9 1 core 2;");
        shorter.run(1);
        Check.equal("one task less", shorter.running(0), 2);
        // Core 0 has taken the first of its two tasks when core 2 looks for the longest queue.
        HardwareTaskQueue later = Check.queue(3, "queue 3 8 0;task 9 1 core 0;task 9 1 core 0;"
                + "task 9 1 core 1;");
        later.run(1);
        Check.equal("what is left of it", later.running(2), 1);
    }

    private static void nothingToSteal() {
        Check.about("(3) ... if this queue is not empty; ...");
        HardwareTaskQueue none = Check.queue(0, "queue 4 8 0;");
        none.run(200);
        HardwareTaskQueue one = Check.queue(1, "queue 4 8 0;task 99 1 core 0;");
        one.run(50);
        Expect.core(one, 0, 0, 50, 50, 0);
        for (int c = 1; c < 4; c++) {
            Expect.core(none, c, -1, 0, 0, 0);
            Expect.core(one, c, -1, 0, 0, 0);
        }
    }

    private static void pausedQueuesCount() {
        Check.about("(3) ... queues of paused cores count, too.");
        HardwareTaskQueue q = Check.queue(3,
                "queue 3 8 0;task 9 1 core 1;task 9 1 core 2;task 9 1 core 2;");
        q.pause(1, true);
        q.pause(2, true);
        q.run(1);
        Expect.core(q, 0, 2, 9, 1, 1);
        Expect.queue(q, 1, 0);
        Expect.queue(q, 2, 1);
        q.run(9);
        Expect.core(q, 0, 0, 9, 10, 2);
        Expect.queue(q, 1);
        Expect.queue(q, 2, 1);
    }

    private static void becomesRunning() {
        Check.about("(3) A task that is taken becomes RUNNING. Its remaining time is its length,"
                + " plus the steal cost if it was stolen.");
        HardwareTaskQueue q = Check.queue(2, "queue 2 8 20;task 99 1 core 1;task 99 2 core 1;");
        q.run(1);
        Expect.states(q, RUNNING, RUNNING);
        Expect.core(q, 0, 0, 119, 1, 1);
        Expect.core(q, 1, 1, 99, 1, 0);
        HardwareTaskQueue free = Check.queue(2, "queue 2 8 0;task 1 1 core 1;task 1 2 core 1;");
        free.run(1);
        Expect.core(free, 0, 0, 1, 1, 1);
        Expect.core(free, 1, 1, 1, 1, 0);
    }

    private static void clockIncreases() {
        Check.about("(4) The clock increases by 1.");
        HardwareTaskQueue q = Check.queue(1, "queue 1 8 0;task 1 1;");
        for (int cycle = 1; cycle <= 5; cycle++) {
            q.run(1);
            Check.equal("clock", q.clock(), cycle);
        }
        Check.equal("doneAt is the clock before step 4", q.doneAt(0), 1);
    }
}
