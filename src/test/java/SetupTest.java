/** Promises 1 to 7: a new object, append, load with all its errors, and what is counted then. */
public final class SetupTest {
    private static final int SYNTAX = HardwareTaskQueue.SYNTAX_ERROR;
    private static final int RANGE = HardwareTaskQueue.OUT_OF_RANGE;
    private static final int MANY = HardwareTaskQueue.TOO_MANY;
    private static final int DEEP = HardwareTaskQueue.TOO_DEEP;
    private static final String Q = "queue 2 1 1;";

    public static void main(String[] args) {
        newObject();
        append();
        buffer();
        correctTexts();
        queueErrors();
        taskErrors();
        tooMany();
        lengthErrors();
        loadReplaces();
        Check.end();
    }

    private static void newObject() {
        HardwareTaskQueue q = new HardwareTaskQueue();
        Check.equal("new: coreCount", q.coreCount(), 0);
        Check.equal("new: taskCount", q.taskCount(), 0);
        Check.equal("new: fenceCount", q.fenceCount(), 0);
        Check.equal("new: clock", q.clock(), 0);
        Check.equal("new: errorOffset", q.errorOffset(), -1);
        Check.equal("new: finished", q.finished(), 0);
        Check.equal("new: undo", q.undo(), -1);
        Check.equal("new: checksum", q.checksum(), 0);
        Check.equal("new: criticalPath", q.criticalPath(), 0);
        Check.equal("new: finishTime", q.finishTime(500), 0);
        Check.argument("new: load(1)", () -> q.load(1));
        Check.equal("new: errorOffset after a throw", q.errorOffset(), -1);
        Check.equal("new: load(0)", q.load(0), SYNTAX);
        Check.equal("new: errorOffset", q.errorOffset(), 0);
    }

    private static void append() {
        HardwareTaskQueue q = new HardwareTaskQueue();
        for (int i = 1; i <= 45; i++) {
            Check.equal("append " + i, q.append(0x20202020, 0x20202020, 0x20202020, 0x20202020,
                    0x20202020), 20 * i);
        }
        Check.equal("append 46", q.append(1, 2, 3, 4, 5), -1);
        Check.equal("append 47", q.append(1, 2, 3, 4, 5), -1);
        Check.equal("load(900) of spaces", q.load(900), SYNTAX);
        Check.equal("at its end", q.errorOffset(), 900);
        Check.equal("append after load", q.append(0, 0, 0, 0, 0), 20);
    }

    /** The buffer stays with a throw and is emptied by every other load. */
    private static void buffer() {
        HardwareTaskQueue q = new HardwareTaskQueue();
        Check.feed(q, "queue 1 1 1;task 1 1;task");
        Check.argument("load(-1)", () -> q.load(-1));
        Check.argument("load(41)", () -> q.load(41));
        Check.argument("load(max)", () -> q.load(Integer.MAX_VALUE));
        Check.argument("load(min)", () -> q.load(Integer.MIN_VALUE));
        Check.equal("load of a part", q.load(21), 1);
        Check.argument("the rest is gone", () -> q.load(1));
        Check.feed(q, "quack");
        Check.equal("load of an error", q.load(5), SYNTAX);
        Check.argument("the error is gone, too", () -> q.load(1));
        Check.equal("errorOffset stays after a throw", q.errorOffset(), 0);
        Check.equal("the error left the tasks", q.taskCount(), 1);
        Check.equal("a text that fits exactly", Check.load(q, "queue 1 1 1;" + " ".repeat(888)), 0);
        Check.equal("no error then", q.errorOffset(), -1);
    }

    private static void correct(String text, int cores, int tasks, int fences) {
        HardwareTaskQueue q = new HardwareTaskQueue();
        Check.equal("load of " + text, Check.load(q, text), tasks);
        Check.equal("errorOffset of " + text, q.errorOffset(), -1);
        Check.equal("coreCount of " + text, q.coreCount(), cores);
        Check.equal("taskCount of " + text, q.taskCount(), tasks);
        Check.equal("fenceCount of " + text, q.fenceCount(), fences);
        Check.equal("clock of " + text, q.clock(), 0);
    }

    private static void correctTexts() {
        correct("queue 1 1 0;", 1, 0, 0);
        correct("queue 4 8 20;", 4, 0, 0);
        correct("   queue   4 8   20  ;  ", 4, 0, 0);
        correct("queue1 1 1;", 1, 0, 0);
        correct("queue 0004 00000000000008 020;", 4, 0, 0);
        correct("queue 2 1 1;task 1 0;task 99 9;", 2, 2, 0);
        correct("queue 2 1 1;task1 0core1;task99 9after0;", 2, 2, 0);
        correct("queue 2 1 1;task 1 0 core 0 ;task 2 2 core 1 after 0;task 3 3 after 1 0;", 2, 3, 0);
        correct("queue 2 1 1;fence;fence;task 1 1;fence;", 2, 1, 3);
        correct("queue 2 1 1;length duration;", 2, 0, 0);
        correct("queue 2 1 1;length9999;", 2, 0, 0);
        correct("queue 2 1 1;length(0)*((load-core)/priority)+duration ;fence;", 2, 0, 1);
        correct("queue 2 1 1;length((((1))))+((((2))))*((((3))));", 2, 0, 0);
        correct("queue 2 1 1;length " + "1+".repeat(438) + "1;", 2, 0, 0);
        correct(Q + "task 1 1;".repeat(32) + "fence;".repeat(8), 2, 32, 8);
    }

    private static void error(String text, int code, int offset) {
        HardwareTaskQueue q = new HardwareTaskQueue();
        Check.equal("load of '" + text + "'", Check.load(q, text), code);
        Check.equal("errorOffset of '" + text + "'", q.errorOffset(), offset);
        Check.equal("coreCount after '" + text + "'", q.coreCount(), 0);
        Check.equal("undo after '" + text + "'", q.undo(), -1);
    }

    private static void queueErrors() {
        error("", SYNTAX, 0);
        error("   ", SYNTAX, 3);
        error("queue", SYNTAX, 5);
        error("queue 1 1 1", SYNTAX, 11);
        error("queue 1 1 1  ", SYNTAX, 13);
        error("Queue 1 1 1;", SYNTAX, 0);
        error("queu 1 1 1;", SYNTAX, 0);
        error("  queues 1 1 1;", SYNTAX, 2);
        error("que ue 1 1 1;", SYNTAX, 0);
        error("task 1 1;", SYNTAX, 0);
        error("queue;", SYNTAX, 5);
        error("queue 1;", SYNTAX, 7);
        error("queue 1 1;", SYNTAX, 9);
        error("queue 1 1 1 1;", SYNTAX, 12);
        error("queue 1 1 1;;", SYNTAX, 12);
        error("queue 1 1 1;queue 1 1 1;", SYNTAX, 12);
        error("queue 1\t1 1;", SYNTAX, 7);
        error("queue 1 1 1;\n", SYNTAX, 12);
        error("queue 1 1 1; \u00e9", SYNTAX, 13);
        error("queue 1 1 1;\u0000", SYNTAX, 12);
        error("queue 1 1 1;\u00a0", SYNTAX, 12);
        error("queue -1 1 1;", SYNTAX, 6);
        error("queue 1 x 1;", SYNTAX, 8);
        error("queue 0 1 1;", RANGE, 6);
        error("queue 5 1 1;", RANGE, 6);
        error("queue 11 1;", RANGE, 6);
        error("queue 4294967297 1 1;", RANGE, 6);
        error("queue 99999999999999999999999999 1 1;", RANGE, 6);
        error("queue 18446744073709551617 1 1;", RANGE, 6);
        error("queue 1 0 1;", RANGE, 8);
        error("queue 1 9 1;", RANGE, 8);
        error("queue 1 1  21;", RANGE, 11);
        error("queue 5", RANGE, 6);
        error("queue 5$", RANGE, 6);
        error("queue 1 1 021x", RANGE, 10);
    }

    private static void taskErrors() {
        error(Q + "task", SYNTAX, 16);
        error(Q + "task;", SYNTAX, 16);
        error(Q + "task 1;", SYNTAX, 18);
        error(Q + "task 1 1", SYNTAX, 20);
        error(Q + "task 1 1 1;", SYNTAX, 21);
        error(Q + "tasks 1 1;", SYNTAX, 12);
        error(Q + "tas 1 1;", SYNTAX, 12);
        error(Q + "1;", SYNTAX, 12);
        error(Q + "task core 1;", SYNTAX, 17);
        error(Q + "task 0 1;", RANGE, 17);
        error(Q + "task 100 1;", RANGE, 17);
        error(Q + "task 1 10;", RANGE, 19);
        error(Q + "task 1 1 core 2;", RANGE, 26);
        error(Q + "task 1 1 core 4;", RANGE, 26);
        error(Q + "task 1 1 core;", SYNTAX, 25);
        error(Q + "task 1 1 core", SYNTAX, 25);
        error(Q + "task 1 1 cores 1;", SYNTAX, 21);
        error(Q + "task 1 1 core 1 1;", SYNTAX, 28);
        error(Q + "task 1 1 core 1 core 1;", SYNTAX, 28);
        error(Q + "task 1 1 after;", SYNTAX, 26);
        error(Q + "task 1 1 after 0;", RANGE, 27);
        error(Q + "task 1 1 after x;", SYNTAX, 27);
        error(Q + "task 1 1;task 1 1 after 1;", RANGE, 36);
        error(Q + "task 1 1;task 1 1 after 0 0;", RANGE, 38);
        error(Q + "task 1 1;task 1 1 after 0 00;", RANGE, 38);
        error(Q + "task 1 1;task 1 1 after 0 32;", RANGE, 38);
        error(Q + "task 1 1;task 1 1 after 32;", RANGE, 36);
        error(Q + "task 1 1;task 1 1 after 0,0;", SYNTAX, 37);
        error(Q + "task 1 1;task 1 1 after 0 core 1;", SYNTAX, 38);
        error(Q + "task 1 1;task 1 1 after 0 after 0;", SYNTAX, 38);
        error(Q + "task 1 1;task 1 1 after 0", SYNTAX, 37);
        error(Q + "task 1 1;task 1 1 after 4294967296;", RANGE, 36);
        error(Q + "fence", SYNTAX, 17);
        error(Q + "fence 1;", SYNTAX, 18);
        error(Q + "fence fence;", SYNTAX, 18);
        error(Q + "fencetask;", SYNTAX, 12);
        error(Q + "fencez;", SYNTAX, 12);
        error(Q + "fence{;", SYNTAX, 17);
        error(Q + "fence`;", SYNTAX, 17);
        error(Q + "hence;", SYNTAX, 12);
        error(Q + "bask 1 1;", SYNTAX, 12);
        error(Q + "task 1: 1;", SYNTAX, 18);
        error(Q + "task 1/ 1;", SYNTAX, 18);
        error(Q + "task 1 1;".repeat(31) + "task 1 1 after 31;", RANGE, 12 + 279 + 15);
    }

    private static void tooMany() {
        String tasks = Q + "task 1 1;".repeat(32);
        error(tasks + "task 1 1;", MANY, 300);
        error(tasks + "  task", MANY, 302);
        error(tasks + "task$", MANY, 300);
        error(tasks + "task 0 0;", MANY, 300);
        error(tasks + "tasks 1 1;", SYNTAX, 300);
        String fences = Q + "fence;".repeat(8);
        error(fences + "fence;", MANY, 60);
        error(fences + " fence", MANY, 61);
        error(fences + "fences;", SYNTAX, 60);
        error(fences + "task 1 1;fence;task 0 0;", MANY, 69);
        error(tasks + "task 1 1;fence;fence;", MANY, 300);
    }

    private static void lengthErrors() {
        error(Q + "length", SYNTAX, 18);
        error(Q + "length;", SYNTAX, 18);
        error(Q + "length ;", SYNTAX, 19);
        error(Q + "length 1", SYNTAX, 20);
        error(Q + "length 10000;", RANGE, 19);
        error(Q + "length 1*10000+;", RANGE, 21);
        error(Q + "length 1+;", SYNTAX, 21);
        error(Q + "length 1*;", SYNTAX, 21);
        error(Q + "length +1;", SYNTAX, 19);
        error(Q + "length -1;", SYNTAX, 19);
        error(Q + "length 1--1;", SYNTAX, 21);
        error(Q + "length 1 2;", SYNTAX, 21);
        error(Q + "length (1;", SYNTAX, 21);
        error(Q + "length (1", SYNTAX, 21);
        error(Q + "length 1);", SYNTAX, 20);
        error(Q + "length ();", SYNTAX, 20);
        error(Q + "length 2%3;", SYNTAX, 20);
        error(Q + "length task;", SYNTAX, 19);
        error(Q + "length durations;", SYNTAX, 19);
        error(Q + "length dur;", SYNTAX, 19);
        error(Q + "length load load;", SYNTAX, 24);
        error(Q + "lengthload;", SYNTAX, 12);
        error(Q + "length 1;length 1;", SYNTAX, 21);
        error(Q + "length 1; length$", SYNTAX, 22);
        error(Q + "length 1;lengths 1;", SYNTAX, 21);
        error(Q + "length (((((1)))));", DEEP, 23);
        error(Q + "length (((((", DEEP, 23);
        error(Q + "length ((((", SYNTAX, 23);
        error(Q + "length ((((1(", SYNTAX, 24);
        error(Q + "length ((((1))))+(((1+(1*(2)))));", DEEP, 37);
        error(Q + "length 1(((((1)))));", SYNTAX, 20);
        error(Q + "length ((((10000((", RANGE, 23);
    }

    /** A load puts new data in the place of all old ones; an error changes none. */
    private static void loadReplaces() {
        HardwareTaskQueue q = Check.queue(6, "queue 3 8 1;task 9 1 core 1;task 9 1 core 1;"
                + "task 9 1 core 1;task 9 1 core 1;fence;task 9 2;task 9 3;length 50;");
        q.pause(1, true);
        q.run(4);
        Check.equal("a prediction", q.finishTime(5), -1);
        long sum = q.checksum();
        Check.equal("an error", Check.load(q, "queue 1 1 1;task 1 1;task 1 1 after 7;"), RANGE);
        Check.equal("errorOffset", q.errorOffset(), 36);
        Check.equal("checksum is the same", q.checksum(), sum);
        Check.equal("coreCount is the same", q.coreCount(), 3);
        Check.equal("fenceCount is the same", q.fenceCount(), 1);
        Check.equal("pause is the same", q.isPaused(1), true);
        Check.equal("a second load", Check.load(q, "queue 2 2 1;task 5 5;"), 1);
        Check.equal("clock", q.clock(), 0);
        Check.equal("state", q.state(0), HardwareTaskQueue.WAITING);
        Check.equal("coreOf", q.coreOf(0), -1);
        Check.equal("doneAt", q.doneAt(0), -1);
        Check.equal("fenceCount", q.fenceCount(), 0);
        for (int core = 0; core < 2; core++) {
            Check.equal("isPaused", q.isPaused(core), false);
            Check.equal("busy", q.busy(core), 0);
            Check.equal("steals", q.steals(core), 0);
            Check.equal("running", q.running(core), -1);
            Check.equal("remaining", q.remaining(core), 0);
            Check.equal("queueLength", q.queueLength(core), 0);
        }
        Check.index("no third core", () -> q.busy(2));
        Check.index("no second task", () -> q.state(1));
        q.run(1);
        Check.equal("the old length expression is gone", q.remaining(0), 5);
    }
}
