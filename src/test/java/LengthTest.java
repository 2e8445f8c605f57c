/** The length of a task (document: "The length of a task", "Setup text"), seen by remaining. */
public final class LengthTest {
    public static void main(String[] args) {
        operators();
        limits();
        variables();
        load();
        undoneLoad();
        Check.end();
    }

    /** The length of a task with duration 7 and priority 3 that core 0 takes from its queue. */
    private static void length(String expression, int due) {
        HardwareTaskQueue q = Check.queue(1,
                "queue 1 4 20;task 7 3;length " + expression + ";");
        q.run(1);
        Check.equal("length " + expression, q.remaining(0), due);
    }

    private static void operators() {
        length("1", 1);
        length("duration", 7);
        length("priority", 3);
        length("duration+priority", 10);
        length("duration-priority", 4);
        length("duration*priority", 21);
        length("duration/priority", 2);
        length("2+3*4", 14);
        length("(2+3)*4", 20);
        length("2*3+4", 10);
        length("20-3-4", 13);
        length("20-(3-4)", 21);
        length("100/5/2", 10);
        length("100/(5/2)", 50);
        length("7/2*2", 6);
        length("2*7/2", 7);
        length("10-2*3+4/2-1", 5);
        length("10 - ( 2 * ( 3 + ( 4 / ( 2 ) ) ) ) + 5", 5);
        length("((((duration))))*2", 14);
        length("1+2*(1+2*(1+2*(1+2*(1+2*3))))", 127);
        length("((((3*2+1)*2+1)*2+1)*2+1)*2+1", 127);
        // Division truncates toward zero: -7 / 2 is -3.
        length("10+(0-7)/2", 7);
        length("10+7/(0-2)", 7);
        length("10+(0-7)/(0-2)", 13);
        // Division by 0 gives 0.
        length("10+5/0", 10);
        length("10+duration/(priority-3)", 10);
        length("10+0/0", 10);
    }

    private static void limits() {
        length("0", 1);
        length("0-5", 1);
        length("999", 999);
        length("1000", 999);
        length("9999", 999);
        // Each operation is limited, not only the last one.
        length("9999*9999/2000", 500);
        length("(0-9999)*9999/2000+501", 1);
        length("(0-9999)*9999/2000+1001", 501);
        length("9999*9999*9999*9999/1000/2", 500);
        length("9999*9999+9999-9999*100", 100);
        length("0-9999*9999-9999+9999*100+200", 100);
        length("9999*9999*(0-9999)/(0-2000)", 500);
        length("9999*100/999", 999);
        length("(9999*9999)*(9999*9999)/5000", 200);
    }

    private static void variables() {
        HardwareTaskQueue q = Check.queue(2, "queue 4 4 5;task 7 3 core 3;task 8 3 core 2;"
                + "length 100*core+10*duration+priority;");
        q.pause(0, true);
        q.pause(1, true);
        q.run(1);
        Check.equal("core 3", q.remaining(3), 373);
        Check.equal("core 2", q.remaining(2), 283);

        // The core is the one that runs the task; the steal cost is not part of the length.
        HardwareTaskQueue thief = Check.queue(1,
                "queue 2 4 20;task 7 3 core 1;length 2000*(1-core);");
        thief.run(1);
        Check.equal("stolen by core 0", thief.remaining(0), 1019);

        // The priority is that of the moment in which the task is taken.
        HardwareTaskQueue later = Check.queue(2, "queue 1 4 0;task 2 9;task 5 1;length priority;");
        later.run(1);
        Check.equal("the first one", later.remaining(0), 9);
        later.setPriority(0, 1);
        later.setPriority(1, 6);
        Check.equal("it is not measured again", later.remaining(0), 9);
        later.run(9);
        Check.equal("the second one", later.remaining(0), 6);
    }

    private static void load() {
        HardwareTaskQueue q = Check.queue(4, "queue 2 4 0;task 1 4 core 0;task 1 3 core 0;"
                + "task 1 2 core 0;task 1 1 core 0;length 1+load*10;");
        q.run(1);
        Check.equal("three remain", q.remaining(0), 31);
        Check.equal("a thief's queue is empty", q.remaining(1), 1);
        Check.equal("two remain", q.queueLength(0), 2);
        q.run(1);
        Check.equal("a second theft", q.running(1), 2);
        Check.equal("a thief's queue is empty", q.remaining(1), 1);
    }

    private static void undoneLoad() {
        HardwareTaskQueue q = Check.queue(1, "queue 1 1 0;task 5 0;length 2*duration;");
        Check.load(q, "queue 1 1 0;task 5 0;length 3*duration;");
        Check.load(q, "queue 1 1 0;task 5 0;");
        q.run(1);
        Check.equal("without a length statement", q.remaining(0), 5);
        q.undo();
        q.undo();
        q.run(1);
        Check.equal("the second text's", q.remaining(0), 15);
        q.undo();
        q.undo();
        q.run(1);
        Check.equal("the first text's", q.remaining(0), 10);
        Check.load(q, "queue 1 1 0;length 7;oops");
        Check.equal("an error keeps it", q.undo(), 1);
        q.run(1);
        Check.equal("the first text's still", q.remaining(0), 10);
    }
}
