/** The edges that promises 23 to 25 name: criticalPath, finishTime and timeOn. */
public final class EdgePredictTest {
    private static final int[] WRONG_LIMITS = {Integer.MIN_VALUE, -1, 501, Integer.MAX_VALUE};
    private static final int[] WRONG_CORES = {Integer.MIN_VALUE, -1, 0, 5, Integer.MAX_VALUE};

    public static void main(String[] args) {
        allFinished();
        unfinishedTasks();
        chainOfPredecessors();
        chainOverFences();
        orderOfTasks();
        greatestPath();
        finishTimes();
        finishTimeAtLimit();
        finishTimeAtGreatestLimit();
        neverFinished();
        wrongFinishTimes();
        finishTimeAtLastCycle();
        allWaiting();
        presentData();
        queuesAndPauses();
        cancelledStay();
        homesModulo();
        homesThatExist();
        timeOnAtLimit();
        wrongTimeOn();
        orderOfExceptions();
        predictionsChangeNothing();
        Check.end();
    }

    private static void allFinished() {
        Check.about("Returns the sum of the durations of the tasks of the chain for which this sum is"
                + " greatest; 0 if all tasks are finished.");
        Check.equal("no setup", new HardwareTaskQueue().criticalPath(), 0);
        Check.equal("no tasks", Makers.of("queue 1 8 0;fence;").criticalPath(), 0);
        HardwareTaskQueue q = Makers.of("queue 1 8 0;task 2 1;task 3 1;");
        q.run(5);
        Check.equal("one is not finished", q.criticalPath(), 3);
        q.run(1);
        Check.equal("all are done", q.criticalPath(), 0);
        HardwareTaskQueue cancelled = Makers.of("queue 1 8 0;task 2 1;task 3 1;");
        cancelled.cancel(1);
        Check.equal("one is not cancelled", cancelled.criticalPath(), 2);
        cancelled.cancel(0);
        Check.equal("all are cancelled", cancelled.criticalPath(), 0);
        cancelled.submit(1, 1, 0);
        Check.equal("a new one", cancelled.criticalPath(), 1);
    }

    private static void unfinishedTasks() {
        Check.about("Finds the longest chain of unfinished tasks ...");
        HardwareTaskQueue q = Makers.busy();
        // Tasks 1 to 4 are before the fence, 20 cycles being the longest; 5 with 9 is after it.
        Check.equal("RUNNING, QUEUED, READY and WAITING ones", q.criticalPath(), 29);
        q.cancel(Makers.WAITING);
        Check.equal("none after the fence", q.criticalPath(), 20);
        HardwareTaskQueue running = Makers.of("queue 1 8 0;task 9 1;");
        running.run(8);
        Check.equal("the duration, not the remaining time", running.criticalPath(), 9);
        HardwareTaskQueue longer = Makers.of("queue 1 8 0;task 9 1;length 500;");
        Check.equal("the duration, not the length", longer.criticalPath(), 9);
    }

    private static void chainOfPredecessors() {
        Check.about("... in which each task is a predecessor of the next one ...");
        Check.equal("one task", Makers.of("queue 1 8 0;task 7 1;").criticalPath(), 7);
        String two = "queue 1 8 0;task 7 1;task 5 1";
        Check.equal("no predecessor", Makers.of(two + ";").criticalPath(), 7);
        Check.equal("a predecessor", Makers.of(two + " after 0;").criticalPath(), 12);
        HardwareTaskQueue q = Makers.of(two + " after 0;task 4 1 after 1;");
        Check.equal("three tasks", q.criticalPath(), 16);
        q.cancel(1);
        Check.equal("the middle one is cancelled", q.criticalPath(), 7);
        HardwareTaskQueue branch = Makers.of(
                "queue 1 8 0;task 3 1;task 4 1;task 9 1 after 0 1;task 10 1 after 0;");
        Check.equal("the greater of 4+9, 3+9, 3+10", branch.criticalPath(), 13);
        branch.cancel(1);
        Check.equal("equal to 3+10", branch.criticalPath(), 13);
        branch.setPriority(2, 9);
        branch.cancel(3);
        Check.equal("3+9", branch.criticalPath(), 12);
    }

    private static void chainOverFences() {
        Check.about("... or separated from it by a fence ...");
        Check.equal("no fence", Makers.of("queue 1 8 0;task 7 1;task 5 1;").criticalPath(), 7);
        Check.equal("between", Makers.of("queue 1 8 0;task 7 1;fence;task 5 1;").criticalPath(), 12);
        Check.equal("before", Makers.of("queue 1 8 0;fence;task 7 1;task 5 1;").criticalPath(), 7);
        Check.equal("behind", Makers.of("queue 1 8 0;task 7 1;task 5 1;fence;").criticalPath(), 7);
        HardwareTaskQueue q = Makers.of(
                "queue 1 8 0;task 7 1;fence;task 5 1;fence;fence;task 3 1;");
        Check.equal("three", q.criticalPath(), 15);
        q.cancel(1);
        Check.equal("separated by more than one", q.criticalPath(), 10);
        q.submit(40, 1, 0);
        Check.equal("a submitted task", q.criticalPath(), 47);
        q.depend(3, 2);
        Check.equal("with a predecessor of its own", q.criticalPath(), 50);
        HardwareTaskQueue open = Makers.of("queue 1 8 0;task 1 1;fence;task 5 1;");
        open.run(2);
        Check.equal("an open fence", open.criticalPath(), 5);
    }

    private static void orderOfTasks() {
        Check.about("(in the order of the tasks)");
        // Both ways the chain goes from the smaller index to the greater one, each task once.
        Check.equal("the first is longer",
                Makers.of("queue 1 8 0;task 9 1;task 8 1;fence;task 2 1;task 1 1;").criticalPath(), 11);
        Check.equal("the last is longer",
                Makers.of("queue 1 8 0;task 1 1;task 2 1;fence;task 8 1;task 9 1;").criticalPath(), 11);
        Check.equal("within and across",
                Makers.of("queue 1 8 0;task 1 1;task 2 1 after 0;fence;task 8 1;task 9 1 after 2;")
                .criticalPath(), 20);
    }

    private static void greatestPath() {
        Check.about("Returns the sum of the durations of the tasks of the chain for which this sum is"
                + " greatest; ...");
        StringBuilder text = new StringBuilder("queue 1 8 0;task 99 1;");
        for (int t = 1; t < 32; t++) {
            text.append("task 99 1 after ").append(t - 1).append(';');
        }
        HardwareTaskQueue q = Check.queue(32, text.toString());
        for (int left = 32; left > 0; left--) {
            Check.equal("the greatest sum", q.criticalPath(), 99 * left);
            q.cancel(32 - left);
        }
        Check.equal("none", q.criticalPath(), 0);
        HardwareTaskQueue last = Check.queue(32, "queue 1 8 0;" + "task 99 1;".repeat(31)
                + "fence;task 1 1 after 30;");
        Check.equal("a fence before the last task", last.criticalPath(), 100);
    }

    private static void finishTimes() {
        Check.about("Predicts how many cycles must be simulated until all tasks are finished.");
        HardwareTaskQueue q = Makers.of("queue 2 1 5;task 3 1 core 1;task 4 1 core 1;fence;task 2 1;");
        for (int left = q.finishTime(500); left > 0; left--) {
            Check.equal("finishTime at " + q.clock(), q.finishTime(500), left);
            Check.equal("finished", q.finished() < 3, true);
            q.run(1);
        }
        Check.equal("finished", q.finished(), 3);
        Check.equal("finishTime", q.finishTime(500), 0);
        Check.equal("no setup", new HardwareTaskQueue().finishTime(0), 0);
        Check.equal("no setup", new HardwareTaskQueue().finishTime(500), 0);
        Check.equal("no tasks", Makers.of("queue 1 1 1;").finishTime(0), 0);
    }

    private static void finishTimeAtLimit() {
        Check.about("Returns the smallest such number, 0 to limit; -1 if limit cycles are not enough.");
        HardwareTaskQueue one = Makers.of("queue 1 1 1;task 1 1;");
        Check.equal("limit 0", one.finishTime(0), -1);
        Check.equal("limit 1", one.finishTime(1), -1);
        Check.equal("limit 2", one.finishTime(2), 2);
        Check.equal("limit 3", one.finishTime(3), 2);
        one.run(1);
        Check.equal("limit 0, one cycle left", one.finishTime(0), -1);
        Check.equal("limit 1, one cycle left", one.finishTime(1), 1);
        one.run(1);
        Check.equal("limit 0, none left", one.finishTime(0), 0);
    }

    private static void finishTimeAtGreatestLimit() {
        Check.about("limit: 0 to 500");
        for (int length : new int[] {498, 499, 500}) {
            HardwareTaskQueue q = Makers.of("queue 1 1 1;task 1 1;length " + length + ";");
            Check.equal("finishTime(500)", q.finishTime(500), length < 500 ? length + 1 : -1);
            Check.equal("finishTime(499)", q.finishTime(499), length < 499 ? length + 1 : -1);
            q.run(1);
            Check.equal("finishTime(500) later", q.finishTime(500), length);
        }
    }

    private static void neverFinished() {
        Check.about("-1 if limit cycles are not enough.");
        HardwareTaskQueue q = Makers.of("queue 2 1 1;task 1 1;");
        q.pause(0, true);
        q.pause(1, true);
        Check.equal("all cores are paused", q.finishTime(500), -1);
        q.pause(1, false);
        Check.equal("core 1 steals", q.finishTime(500), 3);
        HardwareTaskQueue running = Makers.of("queue 1 1 1;task 9 1;task 9 1;");
        running.run(1);
        running.pause(0, true);
        Check.equal("a paused core takes no other one", running.finishTime(500), -1);
        running.cancel(1);
        Check.equal("a paused core goes on", running.finishTime(500), 9);
    }

    private static void wrongFinishTimes() {
        Check.about("Throws IllegalArgumentException if limit is out of range");
        for (int limit : WRONG_LIMITS) {
            Twins.argument("finishTime(" + limit + ")", HardwareTaskQueue::new,
                    q -> q.finishTime(limit));
            Twins.argument("finishTime(" + limit + ")", Makers::busy, q -> q.finishTime(limit));
            Twins.argument("finishTime(" + limit + ")", Makers::full, q -> q.finishTime(limit));
        }
        Twins.answered("finishTime(0)", 0, HardwareTaskQueue::new, q -> q.finishTime(0));
        Twins.answered("finishTime(500)", 0, HardwareTaskQueue::new, q -> q.finishTime(500));
        Twins.answered("finishTime(0)", -1, Makers::busy, q -> q.finishTime(0));
        Twins.answered("finishTime(500)", 42, Makers::busy, q -> q.finishTime(500));
    }

    /** The clock's limit is one of run alone; the document does not bind predictions by it. */
    private static void finishTimeAtLastCycle() {
        Check.about("Predicts how many cycles must be simulated until all tasks are finished.");
        HardwareTaskQueue q = Makers.of("queue 1 1 1;");
        for (int i = 0; i < 500; i++) {
            q.run(200);
        }
        q.submit(9, 1, 0);
        Check.equal("finishTime", q.finishTime(500), 10);
        Check.equal("timeOn", q.timeOn(4, 500), 10);
        Check.state("run", () -> q.run(1));
    }

    private static void allWaiting() {
        Check.about("all tasks (...) are WAITING, ...");
        HardwareTaskQueue q = Makers.of("queue 1 8 0;task 3 1;task 4 1;");
        for (int cycle = 0; cycle < 12; cycle++) {
            Check.equal("timeOn at " + q.clock(), q.timeOn(1, 500), 8);
            q.run(1);
        }
        Check.equal("all are DONE by now", q.finished(), 2);
    }

    private static void presentData() {
        Check.about("(with their present priorities, predecessors, home cores and fences, submitted"
                + " ones included)");
        HardwareTaskQueue q = Makers.of("queue 1 8 0;task 3 1;fence;task 4 1;length 10*priority+1;");
        Check.equal("at first", q.timeOn(4, 500), 23);
        q.setPriority(0, 3);
        Check.equal("a priority", q.timeOn(4, 500), 43);
        q.submit(1, 0, 0);
        Check.equal("a submitted task beside", q.timeOn(4, 500), 43);
        Check.equal("on one core", q.timeOn(1, 500), 44);
        q.depend(2, 1);
        Check.equal("a predecessor", q.timeOn(4, 500), 44);
        q.run(200);
        Check.equal("at the end", q.timeOn(4, 500), 44);
        HardwareTaskQueue full = Makers.of("queue 1 1 20;task 9 1;task 9 1;task 9 1;");
        Check.equal("capacity 1 and steal cost 20 stay", full.timeOn(1, 500), 28);
        HardwareTaskQueue steal = Makers.of("queue 1 8 20;task 9 1;task 9 1;");
        Check.equal("steal cost 20 on two cores", steal.timeOn(2, 500), 30);
    }

    private static void queuesAndPauses() {
        Check.about("... the queues are empty, no core is paused; ...");
        HardwareTaskQueue q = Makers.of("queue 2 2 0;task 5 1;task 5 1;task 5 1;task 5 1;");
        Check.equal("at first", q.timeOn(2, 500), 11);
        q.pause(0, true);
        q.pause(1, true);
        q.run(3);
        Check.equal("full queues, paused cores", q.timeOn(2, 500), 11);
        Check.equal("on one core", q.timeOn(1, 500), 21);
        q.pause(0, false);
        q.run(2);
        Check.equal("a running task", q.timeOn(2, 500), 11);
    }

    private static void cancelledStay() {
        Check.about("... cancelled tasks stay cancelled.");
        HardwareTaskQueue q = Makers.of("queue 1 8 0;task 5 1;task 6 1;task 7 1 after 1;");
        Check.equal("none is cancelled", q.timeOn(1, 500), 19);
        q.cancel(1);
        Check.equal("one is cancelled", q.timeOn(1, 500), 13);
        q.run(200);
        Check.equal("the others are done", q.timeOn(1, 500), 13);
        HardwareTaskQueue all = Makers.of("queue 1 8 0;task 5 1;task 6 1;");
        all.cancel(0);
        Check.equal("limit 0", all.timeOn(1, 0), -1);
        all.cancel(1);
        Check.equal("all are cancelled, limit 0", all.timeOn(1, 0), 0);
        all.submit(1, 1, 0);
        Check.equal("a new one, limit 0", all.timeOn(1, 0), -1);
        Check.equal("a new one, limit 2", all.timeOn(1, 2), 2);
    }

    private static void homesModulo() {
        Check.about("Home cores that do not exist are taken modulo the number of cores.");
        for (int home = 0; home < 4; home++) {
            for (int cores = 1; cores <= 4; cores++) {
                for (int tasks = 1; tasks <= 5; tasks++) {
                    Check.equal(tasks + " tasks of home " + home + " on " + cores,
                            atHome(tasks, home).timeOn(cores, 500),
                            atHome(tasks, home % cores).timeOn(cores, 500));
                }
            }
        }
        // Of two tasks, core 0 runs its first one itself, and core 1 has to steal the other.
        Check.equal("home 2 is core 0 of 2", atHome(2, 2).timeOn(2, 500), 41);
        // Core 0 steals the last one of core 1.
        Check.equal("home 3 is core 1 of 2", atHome(2, 3).timeOn(2, 500), 31);
        Check.equal("home 3 is core 0 of 3", atHome(2, 3).timeOn(3, 500), 41);
        Check.equal("home 3 is core 0 of 1", atHome(2, 3).timeOn(1, 500), 21);
    }

    private static HardwareTaskQueue atHome(int tasks, int home) {
        return Makers.of("queue 4 8 20;" + ("task 1 1 core " + home + ";").repeat(tasks)
                + "length 10*(core+1);");
    }

    private static void homesThatExist() {
        Check.about("Home cores that do not exist are taken modulo the number of cores.");
        // On more cores than there are, each home core stays.
        HardwareTaskQueue q = Makers.of("queue 2 8 20;" + "task 9 1;".repeat(4));
        Check.equal("on 2 cores", q.timeOn(2, 500), 19);
        Check.equal("on 4 cores core 2 and 3 steal", q.timeOn(4, 500), 30);
        HardwareTaskQueue four = Makers.of("queue 4 8 20;" + "task 9 1;".repeat(4));
        Check.equal("on 4 cores none steals", four.timeOn(4, 500), 10);
        Check.equal("on 2 cores none steals", four.timeOn(2, 500), 19);
    }

    private static void timeOnAtLimit() {
        Check.about("Returns the smallest number of cycles, 0 to limit, after which all tasks are"
                + " finished; -1 if limit cycles are not enough.");
        HardwareTaskQueue q = Makers.of("queue 1 8 0;task 7 1;");
        int[][] due = {{0, -1}, {7, -1}, {8, 8}, {9, 8}, {500, 8}};
        for (int[] row : due) {
            Check.equal("timeOn(1, " + row[0] + ")", q.timeOn(1, row[0]), row[1]);
        }
        for (int length : new int[] {498, 499, 500}) {
            HardwareTaskQueue slow = Makers.of("queue 1 1 1;task 1 1;length " + length + ";");
            Check.equal("timeOn(1, 500)", slow.timeOn(1, 500), length < 500 ? length + 1 : -1);
            Check.equal("timeOn(1, 499)", slow.timeOn(1, 499), length < 499 ? length + 1 : -1);
        }
        Check.equal("no tasks, limit 0", Makers.of("queue 1 8 0;").timeOn(4, 0), 0);
    }

    private static void wrongTimeOn() {
        Check.about("Throws IllegalArgumentException if cores or limit is out of range");
        for (int limit : WRONG_LIMITS) {
            Twins.argument("timeOn(1, " + limit + ")", Makers::busy, q -> q.timeOn(1, limit));
            Twins.argument("timeOn(4, " + limit + ")", Makers::full, q -> q.timeOn(4, limit));
        }
        for (int cores : WRONG_CORES) {
            Twins.argument("timeOn(" + cores + ", 0)", Makers::busy, q -> q.timeOn(cores, 0));
            Twins.argument("timeOn(" + cores + ", 500)", Makers::full, q -> q.timeOn(cores, 500));
        }
        int[] times = {60, 42};
        for (int cores = 1; cores <= 2; cores++) {
            int number = cores;
            Twins.answered("timeOn(" + cores + ", 0)", -1, Makers::busy, q -> q.timeOn(number, 0));
            Twins.answered("timeOn(" + cores + ", 500)", times[cores - 1], Makers::busy,
                    q -> q.timeOn(number, 500));
        }
    }

    private static void orderOfExceptions() {
        Check.about("Throws IllegalStateException if there are no cores (no setup has been loaded)");
        for (int limit : WRONG_LIMITS) {
            Twins.argument("timeOn(1, " + limit + ")", HardwareTaskQueue::new,
                    q -> q.timeOn(1, limit));
        }
        for (int cores : WRONG_CORES) {
            Twins.argument("timeOn(" + cores + ", 1)", HardwareTaskQueue::new,
                    q -> q.timeOn(cores, 1));
        }
        Twins.state("timeOn(1, 0)", HardwareTaskQueue::new, q -> q.timeOn(1, 0));
        Twins.state("timeOn(4, 500)", HardwareTaskQueue::new, q -> q.timeOn(4, 500));
        Twins.state("timeOn(1, 0) after an undone load", EdgePredictTest::undone,
                q -> q.timeOn(1, 0));
        Twins.state("timeOn(1, 0) after an error", () -> Makers.of("x"), q -> q.timeOn(1, 0));
        Twins.answered("timeOn(1, 0)", 0, () -> Makers.of("queue 1 1 0;"), q -> q.timeOn(1, 0));
    }

    private static HardwareTaskQueue undone() {
        HardwareTaskQueue q = Makers.of("queue 1 1 0;task 1 1;");
        q.undo();
        return q;
    }

    private static void predictionsChangeNothing() {
        Check.about("Predicts ...");
        Twins.answered("criticalPath()", 29, Makers::busy, q -> q.criticalPath());
        Twins.answered("finishTime(3)", -1, Makers::busy, q -> q.finishTime(3));
        Twins.answered("timeOn(4, 500)", -1, Makers::busy, q -> q.timeOn(4, 3));
        Twins.answered("all of them", 0, Makers::full, q -> {
            q.finishTime(500);
            q.timeOn(1, 500);
            q.timeOn(4, 500);
            q.criticalPath();
            q.checksum();
            return 0;
        });
    }
}
