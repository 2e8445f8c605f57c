/** The edges that "Conventions" and "The machine" of the document name, sentence by sentence. */
public final class EdgeMachineTest {
    private static final int RANGE = HardwareTaskQueue.OUT_OF_RANGE;
    private static final int MANY = HardwareTaskQueue.TOO_MANY;
    private static final int WAITING = HardwareTaskQueue.WAITING;
    private static final int READY = HardwareTaskQueue.READY;
    private static final int QUEUED = HardwareTaskQueue.QUEUED;
    private static final int RUNNING = HardwareTaskQueue.RUNNING;
    private static final int DONE = HardwareTaskQueue.DONE;
    private static final int CANCELLED = HardwareTaskQueue.CANCELLED;

    public static void main(String[] args) {
        indexes();
        coreNumber();
        capacity();
        stealCost();
        oneTaskAtATime();
        pausable();
        taskNumber();
        durations();
        priorities();
        homeCores();
        earlierTasks();
        fenceNumber();
        fenceSeparates();
        fenceAndLaterTasks();
        states();
        finished();
        counters();
        openFences();
        clock();
        Check.end();
    }

    private static void refused(String text, int code, int offset) {
        Twins.loadError(HardwareTaskQueue::new, text, code, offset);
        Twins.loadError(Makers::busy, text, code, offset);
    }

    private static void indexes() {
        Check.about("Cores, tasks and fences have indexes from 0 in the order in which they are"
                + " declared or added.");
        HardwareTaskQueue q = Check.queue(3, "queue 2 8 0;task 1 3;fence;task 1 4;fence;task 1 5;");
        for (int t = 0; t < 3; t++) {
            Check.equal("priority(" + t + ")", q.priority(t), 3 + t);
        }
        Check.equal("the first one that is added", q.submit(1, 6, 1), 3);
        Check.equal("the second one that is added", q.submit(1, 7, 1), 4);
        Check.equal("priority(3)", q.priority(3), 6);
        Check.equal("priority(4)", q.priority(4), 7);
        q.run(2);
        Check.equal("fence 0 is the first one", q.isOpen(0), true);
        Check.equal("fence 1 is the second one", q.isOpen(1), false);
        Check.index("task -1", () -> q.state(-1));
        Check.index("task 5 of 5", () -> q.state(5));
        Check.index("fence -1", () -> q.isOpen(-1));
        Check.index("fence 2 of 2", () -> q.isOpen(2));
        Check.index("core -1", () -> q.busy(-1));
        Check.equal("core 0", q.busy(0), 2);
        Check.equal("core 1", q.busy(1), 0);
        Check.index("core 2 of 2", () -> q.busy(2));
    }

    private static void coreNumber() {
        Check.about("There are 1 to 4 cores, ...");
        for (int cores = 1; cores <= 4; cores++) {
            Check.equal("coreCount", Check.queue(0, "queue " + cores + " 1 0;").coreCount(), cores);
        }
        refused("queue 0 1 0;", RANGE, 6);
        refused("queue 5 1 0;", RANGE, 6);
    }

    /** All tasks belong to core 0; with all cores paused, they fill one queue after the other. */
    private static void capacity() {
        Check.about("... each with a queue of at most 'capacity' tasks (1 to 8).");
        for (int cores = 1; cores <= 4; cores++) {
            for (int capacity = 1; capacity <= 8; capacity++) {
                int places = cores * capacity;
                filled(cores, capacity, places - 1);
                filled(cores, capacity, places);
                if (places < 32) {
                    filled(cores, capacity, places + 1);
                }
            }
        }
        refused("queue 1 0 0;", RANGE, 8);
        refused("queue 1 9 0;", RANGE, 8);
    }

    private static void filled(int cores, int capacity, int tasks) {
        String text = "queue " + cores + " " + capacity + " 0;" + "task 9 1 core 0;".repeat(tasks);
        HardwareTaskQueue q = Check.queue(tasks, text);
        for (int c = 0; c < cores; c++) {
            q.pause(c, true);
        }
        q.run(2);
        int all = 0;
        for (int c = 0; c < cores; c++) {
            int length = q.queueLength(c);
            Check.equal("queueLength " + length + " is within " + capacity, length <= capacity, true);
            all += length;
        }
        Check.equal("queued of " + text, all, Math.min(tasks, cores * capacity));
        Check.equal("the home core's queue", q.queueLength(0), Math.min(tasks, capacity));
        for (int t = 0; t < tasks; t++) {
            Check.equal("state(" + t + ")", q.state(t), t < cores * capacity ? QUEUED : READY);
        }
    }

    private static void stealCost() {
        Check.about("The steal cost is 0 to 20 cycles.");
        for (int cost : new int[] {0, 1, 19, 20}) {
            HardwareTaskQueue q = Check.queue(1, "queue 2 1 " + cost + ";task 5 0 core 1;");
            q.run(1);
            Check.equal("remaining with cost " + cost, q.remaining(0), 5 + cost);
            Check.equal("it is stolen", q.steals(0), 1);
        }
        refused("queue 1 1 21;", RANGE, 10);
    }

    private static void oneTaskAtATime() {
        Check.about("A core runs at most one task at a time.");
        HardwareTaskQueue q = Check.queue(2, "queue 1 8 0;task 3 1;task 3 1;");
        for (int cycle = 0; cycle < 3; cycle++) {
            q.run(1);
            Expect.states(q, RUNNING, QUEUED);
        }
        q.run(1);
        Expect.states(q, DONE, RUNNING);
        Check.equal("running", q.running(0), 1);
    }

    private static void pausable() {
        Check.about("It can be paused.");
        HardwareTaskQueue q = Check.queue(4, "queue 4 8 0;" + "task 3 1;".repeat(4));
        for (int c = 0; c < 4; c++) {
            Check.equal("pause", q.pause(c, true), false);
            for (int other = 0; other < 4; other++) {
                Check.equal("isPaused", q.isPaused(other), other <= c);
            }
        }
        q.run(1);
        Expect.states(q, QUEUED, QUEUED, QUEUED, QUEUED);
    }

    private static void taskNumber() {
        Check.about("There are at most 32 tasks.");
        String task = "task 1 1;";
        Check.equal("none", Check.queue(0, "queue 1 8 0;").taskCount(), 0);
        Check.equal("31 tasks", Check.queue(31, "queue 1 8 0;" + task.repeat(31)).taskCount(), 31);
        String most = "queue 1 8 0;" + task.repeat(32);
        Check.equal("32 tasks", Check.queue(32, most).taskCount(), 32);
        refused(most + task, MANY, most.length());
        HardwareTaskQueue q = Makers.of("queue 1 8 0;" + task.repeat(31));
        Check.equal("the 32nd by submit", q.submit(1, 1, 0), 31);
        Twins.state("the 33rd by submit", () -> Makers.of(most), full -> full.submit(1, 1, 0));
        Twins.state("a 33rd after others ended", Makers::full, full -> full.submit(1, 1, 0));
    }

    private static void durations() {
        Check.about("A task has a duration (1 to 99), ...");
        for (int duration : new int[] {1, 2, 98, 99}) {
            HardwareTaskQueue q = Check.queue(1, "queue 1 8 0;task " + duration + " 1;");
            Check.equal("criticalPath", q.criticalPath(), duration);
            Check.equal("finishTime", q.finishTime(500), duration + 1);
        }
        refused("queue 1 8 0;task 0 1;", RANGE, 17);
        refused("queue 1 8 0;task 100 1;", RANGE, 17);
    }

    private static void priorities() {
        Check.about("... a priority (0 to 9), ...");
        for (int priority : new int[] {0, 1, 8, 9}) {
            HardwareTaskQueue q = Check.queue(1, "queue 1 8 0;task 1 " + priority + ";");
            Check.equal("priority", q.priority(0), priority);
        }
        refused("queue 1 8 0;task 1 10;", RANGE, 19);
    }

    private static void homeCores() {
        Check.about("... a home core, ...");
        for (int home = 0; home < 4; home++) {
            HardwareTaskQueue q = Check.queue(1, "queue 4 8 0;task 1 1 core " + home + ";");
            for (int c = 0; c < 4; c++) {
                q.pause(c, true);
            }
            q.run(1);
            Expect.queue(q, home, 0);
        }
        refused("queue 4 8 0;task 1 1 core 4;", RANGE, 26);
        refused("queue 1 8 0;task 1 1 core 1;", RANGE, 26);
    }

    private static void earlierTasks() {
        Check.about("... and predecessors, which are earlier tasks.");
        String two = "queue 1 8 0;task 1 1;task 1 1;task 1 1 after ";
        Expect.counters(Check.queue(3, two + "0;"), 0, 0, 1);
        Expect.counters(Check.queue(3, two + "1;"), 0, 0, 1);
        refused(two + "2;", RANGE, two.length());
        refused(two + "3;", RANGE, two.length());
        refused("queue 1 8 0;task 1 1 after 0;", RANGE, 27);
    }

    private static void fenceNumber() {
        Check.about("There are at most 8 fences.");
        Check.equal("none", Check.queue(0, "queue 1 8 0;").fenceCount(), 0);
        Check.equal("7 fences", Check.queue(0, "queue 1 8 0;" + "fence;".repeat(7)).fenceCount(), 7);
        String most = "queue 1 8 0;" + "fence;".repeat(8);
        Check.equal("8 fences", Check.queue(0, most).fenceCount(), 8);
        refused(most + "fence;", MANY, most.length());
        refused(most + "task 1 1;fence;", MANY, most.length() + 9);
    }

    /** A fence at each place among four tasks, which are finished one after the other. */
    private static void fenceSeparates() {
        Check.about("A fence separates the tasks that are declared before it from those after it: "
                + "each task after a fence has to wait until all tasks before the fence are"
                + " finished.");
        for (int place = 0; place <= 4; place++) {
            HardwareTaskQueue q = Check.queue(4, "queue 1 8 0;" + "task 1 1;".repeat(place)
                    + "fence;" + "task 1 1;".repeat(4 - place));
            for (int done = 0; done <= 4; done++) {
                for (int t = 0; t < 4; t++) {
                    Check.equal("counter(" + t + ") behind " + place + " with " + done,
                            q.counter(t), t >= place && done < place ? 1 : 0);
                }
                if (done < 4) {
                    q.cancel(done);
                }
            }
        }
        HardwareTaskQueue q = Check.queue(3, "queue 4 8 0;task 2 1;task 3 1;fence;task 1 1;");
        q.run(3);
        Expect.states(q, DONE, RUNNING, WAITING);
        q.run(1);
        Expect.states(q, DONE, DONE, RUNNING);
    }

    private static void fenceAndLaterTasks() {
        Check.about("... (also one that is added later) ...");
        HardwareTaskQueue q = Check.queue(1, "queue 4 8 0;task 3 1;fence;fence;");
        Check.equal("submit", q.submit(1, 1, 0), 1);
        Check.equal("counter", q.counter(1), 2);
        q.run(3);
        Expect.states(q, RUNNING, WAITING);
        q.run(1);
        Expect.states(q, DONE, RUNNING);
        // The fences stay open, for a task that is added later is not before them.
        Check.equal("submit", q.submit(1, 1, 0), 2);
        Check.equal("counter", q.counter(2), 0);
        Check.equal("isOpen", q.isOpen(1), true);
    }

    private static void states() {
        Check.about("A task is in one of these states: WAITING, READY, QUEUED, RUNNING, DONE or"
                + " CANCELLED.");
        HardwareTaskQueue q = Check.queue(4,
                "queue 1 1 0;task 2 9;task 2 8;task 2 7;task 2 6 after 2;");
        Expect.states(q, WAITING, WAITING, WAITING, WAITING);
        q.run(1);
        Expect.states(q, RUNNING, READY, READY, WAITING);
        q.run(1);
        Expect.states(q, RUNNING, QUEUED, READY, WAITING);
        q.cancel(2);
        Expect.states(q, RUNNING, QUEUED, CANCELLED, WAITING);
        q.run(1);
        Expect.states(q, DONE, RUNNING, CANCELLED, READY);
    }

    private static void finished() {
        Check.about("It is finished if it is DONE or CANCELLED.");
        HardwareTaskQueue q = Makers.busy();
        Check.equal("state", q.state(Makers.WAITING), WAITING);
        Check.equal("state", q.state(Makers.READY), READY);
        Check.equal("state", q.state(Makers.QUEUED), QUEUED);
        Check.equal("state", q.state(Makers.RUNNING), RUNNING);
        Check.equal("state", q.state(Makers.DONE), DONE);
        Check.equal("state", q.state(Makers.CANCELLED), CANCELLED);
        Check.equal("finished", q.finished(), 2);
        for (int t = 1; t < 5; t++) {
            HardwareTaskQueue one = Check.queue(5,
                    "queue 1 1 0;task 1 9;task 9 8;task 9 7;task 9 6;task 9 5 after " + t % 4 + ";");
            one.run(2);
            // Task 0 is done, 1 runs, 2 is in the queue, 3 is ready.
            Check.equal("counter behind task " + t % 4, one.counter(4), t % 4 == 0 ? 0 : 1);
        }
    }

    /** The greatest counter: 31 predecessors and 8 fences, less by one with each task that ends. */
    private static void counters() {
        Check.about("The counter of a task is the number of its predecessors that are not finished"
                + " plus the number of fences before it that are not open; ...");
        StringBuilder text = new StringBuilder("queue 1 8 0;" + "task 1 1;".repeat(31)
                + "fence;".repeat(8) + "task 1 1 after");
        for (int t = 0; t < 31; t++) {
            text.append(' ').append(t);
        }
        HardwareTaskQueue q = Check.queue(32, text + ";");
        for (int t = 0; t < 31; t++) {
            Check.equal("counter with " + t, q.counter(31), 39 - t);
            q.cancel(t);
        }
        Check.equal("counter at last", q.counter(31), 0);
        Check.equal("state", q.state(31), WAITING);
        q.run(1);
        Check.equal("state", q.state(31), RUNNING);
    }

    private static void openFences() {
        Check.about("... a fence is open if all tasks before it are finished.");
        HardwareTaskQueue q = Check.queue(32, "queue 1 8 0;fence;task 1 1;fence;"
                + "task 1 1;".repeat(30) + "fence;task 1 1;fence;");
        boolean[] none = {true, false, false, false};
        boolean[] first = {true, true, false, false};
        boolean[] most = {true, true, true, false};
        for (int done = 0; done < 32; done++) {
            boolean[] due = done == 0 ? none : done < 31 ? first : most;
            for (int f = 0; f < 4; f++) {
                Check.equal("isOpen(" + f + ") with " + done, q.isOpen(f), due[f]);
            }
            q.cancel(done);
        }
        Check.equal("isOpen of the last", q.isOpen(3), true);
        HardwareTaskQueue full = Check.queue(32, "queue 1 8 0;" + "task 1 1;".repeat(32) + "fence;");
        for (int t = 31; t >= 0; t--) {
            Check.equal("isOpen with task " + t + " and those before", full.isOpen(0), false);
            full.cancel(t);
        }
        Check.equal("isOpen with none", full.isOpen(0), true);
    }

    private static void clock() {
        Check.about("The clock is the number of cycles that have passed.");
        HardwareTaskQueue q = Check.queue(0, "queue 1 8 0;");
        Check.equal("at first", q.clock(), 0);
        q.run(1);
        Check.equal("after one cycle", q.clock(), 1);
        q.run(200);
        Check.equal("after 201 cycles", q.clock(), 201);
    }
}
