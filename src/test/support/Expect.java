/** Several answers of a queue at once. */
final class Expect {
    private Expect() {
    }

    /** The tasks of a core's queue, from the first one on. */
    static void queue(HardwareTaskQueue q, int core, int... tasks) {
        Check.equal("queueLength(" + core + ") at " + q.clock(), q.queueLength(core), tasks.length);
        for (int k = 0; k < tasks.length && k < q.queueLength(core); k++) {
            Check.equal("queued(" + core + ", " + k + ") at " + q.clock(), q.queued(core, k),
                    tasks[k]);
        }
    }

    /** The states of the tasks, from task 0 on. */
    static void states(HardwareTaskQueue q, int... due) {
        for (int t = 0; t < due.length; t++) {
            Check.equal("state(" + t + ") at " + q.clock(), q.state(t), due[t]);
        }
    }

    /** The counters of the tasks, from task 0 on. */
    static void counters(HardwareTaskQueue q, int... due) {
        for (int t = 0; t < due.length; t++) {
            Check.equal("counter(" + t + ") at " + q.clock(), q.counter(t), due[t]);
        }
    }

    /** The task that a core runs with its remaining time, the core's busy cycles and its steals. */
    static void core(HardwareTaskQueue q, int core, int running, int remaining, int busy,
            int steals) {
        Check.equal("running(" + core + ") at " + q.clock(), q.running(core), running);
        Check.equal("remaining(" + core + ") at " + q.clock(), q.remaining(core), remaining);
        Check.equal("busy(" + core + ") at " + q.clock(), q.busy(core), busy);
        Check.equal("steals(" + core + ") at " + q.clock(), q.steals(core), steals);
    }
}
