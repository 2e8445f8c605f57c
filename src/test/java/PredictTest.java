/** Promises 23 to 25: criticalPath, finishTime and timeOn. */
public final class PredictTest {
    public static void main(String[] args) {
        criticalPath();
        finishTime();
        timeOn();
        timeOnAfterChanges();
        nothingChanges();
        wrongArguments();
        Check.end();
    }

    private static void criticalPath() {
        HardwareTaskQueue q = Check.queue(5, "queue 2 4 0;task 5 0;task 3 0;task 4 0 after 1;"
                + "task 2 0 after 0 2;task 1 0;");
        Check.equal("a chain of predecessors", q.criticalPath(), 9);
        Check.equal("cancel", q.cancel(2), HardwareTaskQueue.WAITING);
        Check.equal("the chain goes over unfinished tasks alone", q.criticalPath(), 7);
        q.run(1);
        Check.equal("running tasks count with their durations", q.criticalPath(), 7);
        q.run(200);
        Check.equal("all are finished", q.criticalPath(), 0);

        HardwareTaskQueue f = Check.queue(6, "queue 2 4 0;task 5 0;task 7 0;fence;task 3 0;"
                + "task 4 0;fence;fence;task 2 0;task 9 0;");
        Check.equal("fences", f.criticalPath(), 7 + 4 + 9);
        f.cancel(2);
        f.cancel(3);
        Check.equal("a fence separates distant tasks, too", f.criticalPath(), 7 + 9);
        f.cancel(1);
        Check.equal("cancelled ones do not count", f.criticalPath(), 5 + 9);

        HardwareTaskQueue mixed = Check.queue(5, "queue 2 4 0;task 9 0;task 1 0 after 0;fence;"
                + "task 2 0;task 8 0 after 0;task 3 0 after 2;");
        Check.equal("fences and predecessors", mixed.criticalPath(), 9 + 1 + 8);
        mixed.depend(4, 3);
        Check.equal("with depend", mixed.criticalPath(), 9 + 1 + 8 + 3);
        Check.equal("submit", mixed.submit(40, 0, 0), 5);
        Check.equal("a submitted task is after the fences", mixed.criticalPath(), 9 + 1 + 40);

        HardwareTaskQueue last = Check.queue(32,
                "queue 1 8 0;" + "task 99 0;".repeat(31) + "fence;task 99 0;");
        Check.equal("fence before the last task", last.criticalPath(), 198);
        HardwareTaskQueue unfinishedPredecessor = Check.queue(3,
                "queue 1 8 0;task 10 0;task 20 0 after 0;task 30 0 after 1;");
        unfinishedPredecessor.cancel(1);
        Check.equal("no chain over a cancelled task", unfinishedPredecessor.criticalPath(), 30);
    }

    private static void finishTime() {
        HardwareTaskQueue q = Check.queue(2, "queue 1 4 0;task 5 0;task 3 0;");
        Check.equal("finishTime(500)", q.finishTime(500), 9);
        Check.equal("finishTime(9)", q.finishTime(9), 9);
        Check.equal("finishTime(8)", q.finishTime(8), -1);
        Check.equal("finishTime(0)", q.finishTime(0), -1);
        q.run(4);
        Check.equal("finishTime later", q.finishTime(500), 5);
        q.pause(0, true);
        Check.equal("finishTime of a paused core", q.finishTime(500), -1);
        q.pause(0, false);
        Check.equal("run", q.run(4), 1);
        Check.equal("finishTime at last", q.finishTime(1), 1);
        Check.equal("run", q.run(1), 1);
        Check.equal("finishTime of finished tasks", q.finishTime(0), 0);

        HardwareTaskQueue none = Check.queue(0, "queue 1 4 0;");
        Check.equal("finishTime without tasks", none.finishTime(0), 0);
        HardwareTaskQueue cancelled = Check.queue(1, "queue 1 4 0;task 5 0;");
        cancelled.cancel(0);
        Check.equal("finishTime of a cancelled task", cancelled.finishTime(0), 0);
        HardwareTaskQueue slow = Check.queue(1, "queue 1 4 0;task 5 0;length 499;");
        Check.equal("finishTime at the limit", slow.finishTime(500), 500);
        Check.equal("finishTime below it", slow.finishTime(499), -1);
    }

    private static void timeOn() {
        HardwareTaskQueue q = Check.queue(4,
                "queue 2 4 0;task 4 0;task 4 0;task 4 0;task 4 0;");
        Check.equal("timeOn(1)", q.timeOn(1, 500), 17);
        Check.equal("timeOn(2)", q.timeOn(2, 500), 9);
        Check.equal("timeOn(3)", q.timeOn(3, 500), 9);
        Check.equal("timeOn(4)", q.timeOn(4, 500), 5);
        Check.equal("timeOn(4, 5)", q.timeOn(4, 5), 5);
        Check.equal("timeOn(4, 4)", q.timeOn(4, 4), -1);
        Check.equal("timeOn(4, 0)", q.timeOn(4, 0), -1);

        // Home core 3 is core 1 of 2, so that core 0 has to steal.
        HardwareTaskQueue homes = Check.queue(1,
                "queue 4 4 10;task 4 0 core 3;length 4+100*core;");
        Check.equal("on 1 core", homes.timeOn(1, 500), 5);
        Check.equal("on 2 cores", homes.timeOn(2, 500), 15);
        Check.equal("on 3 cores", homes.timeOn(3, 500), 5);

        HardwareTaskQueue none = Check.queue(0, "queue 1 4 0;");
        Check.equal("without tasks", none.timeOn(4, 0), 0);
    }

    /** All begins anew but for what is cancelled; submitted tasks and priorities are kept. */
    private static void timeOnAfterChanges() {
        HardwareTaskQueue q = Check.queue(3, "queue 2 4 0;task 4 0;fence;task 6 0;task 2 0 core 0;");
        q.cancel(2);
        q.pause(0, true);
        q.pause(1, true);
        Check.equal("no core is paused in timeOn", q.timeOn(2, 500), 11);
        Check.equal("finishTime of paused cores", q.finishTime(500), -1);
        q.pause(0, false);
        q.run(200);
        Check.equal("finished", q.finished(), 3);
        Check.equal("after the end", q.timeOn(1, 500), 11);
        Check.equal("submit", q.submit(5, 0, 1), 3);
        Check.equal("depend", q.depend(3, 1), 0);
        Check.equal("with the submitted task", q.timeOn(2, 500), 16);
        HardwareTaskQueue p = Check.queue(2, "queue 1 4 0;task 4 0;task 4 0;length 10*priority;");
        p.setPriority(1, 7);
        Check.equal("with the present priority", p.timeOn(1, 500), 72);
        HardwareTaskQueue all = Check.queue(2, "queue 1 4 0;task 4 0;task 4 0;");
        all.cancel(0);
        all.cancel(1);
        Check.equal("cancelled tasks alone", all.timeOn(1, 0), 0);
    }

    private static void nothingChanges() {
        HardwareTaskQueue q = Check.queue(4, "queue 2 4 0;task 4 0;task 4 0;fence;task 4 0;task 4 0;");
        q.run(2);
        q.pause(1, true);
        long sum = q.checksum();
        q.timeOn(4, 500);
        q.finishTime(500);
        q.criticalPath();
        Check.equal("checksum", q.checksum(), sum);
        Check.equal("clock", q.clock(), 2);
        Check.equal("coreCount", q.coreCount(), 2);
        Check.equal("isPaused", q.isPaused(1), true);
        Check.equal("undo", q.undo(), 2);
    }

    private static void wrongArguments() {
        HardwareTaskQueue empty = new HardwareTaskQueue();
        Check.argument("timeOn(5, 0) without cores", () -> empty.timeOn(5, 0));
        Check.argument("timeOn(1, 501) without cores", () -> empty.timeOn(1, 501));
        Check.state("timeOn(1, 0) without cores", () -> empty.timeOn(1, 0));
        HardwareTaskQueue q = Check.queue(1, "queue 2 4 0;task 4 0;");
        for (int limit : new int[] {-1, 501, Integer.MAX_VALUE, Integer.MIN_VALUE}) {
            Check.argument("finishTime(" + limit + ")", () -> q.finishTime(limit));
            Check.argument("timeOn(1, " + limit + ")", () -> q.timeOn(1, limit));
        }
        for (int cores : new int[] {0, -1, 5, Integer.MAX_VALUE, Integer.MIN_VALUE}) {
            Check.argument("timeOn(" + cores + ", 1)", () -> q.timeOn(cores, 1));
        }
    }
}
