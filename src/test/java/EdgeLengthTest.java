/** The edges that "The length of a task" of the document names, sentence by sentence. */
public final class EdgeLengthTest {
    public static void main(String[] args) {
        truncation();
        range();
        rangeAndStealCost();
        whenTaken();
        durationAndPriority();
        core();
        load();
        loadOfThief();
        divisionByZero();
        limitedSums();
        limitedDifferences();
        limitedProducts();
        limitedQuotients();
        eachOperation();
        withoutLength();
        smallestNumber();
        deepest();
        Check.end();
    }

    /** The length of a task with duration 7 and priority 3 that core 0 takes from its queue. */
    private static void length(String expression, int due) {
        HardwareTaskQueue q = Check.queue(1, "queue 1 4 20;task 7 3;length " + expression + ";");
        q.run(1);
        Check.equal("length " + expression, q.remaining(0), due);
    }

    private static void truncation() {
        Check.about("Division truncates toward zero.");
        length("10+1/2", 10);
        length("10+2/2", 11);
        length("10+3/2", 11);
        length("10+(0-1)/2", 10);
        length("10+(0-2)/2", 9);
        length("10+(0-3)/2", 9);
        length("10+1/(0-2)", 10);
        length("10+3/(0-2)", 9);
        length("10+(0-1)/(0-2)", 10);
        length("10+(0-3)/(0-2)", 11);
    }

    private static void range() {
        Check.about("The length of a task is the value of the length expression, limited to the"
                + " range 1 to 999, ...");
        length("0-1000*1000", 1);
        length("0-1", 1);
        length("0", 1);
        length("1", 1);
        length("2", 2);
        length("998", 998);
        length("999", 999);
        length("1000", 999);
        length("1001", 999);
        length("1000*1000", 999);
    }

    /** The steal cost comes on top of the limited length. */
    private static void rangeAndStealCost() {
        Check.about("The length of a task is the value of the length expression, limited to the"
                + " range 1 to 999, ...");
        int[][] due = {{0, 21}, {1, 21}, {2, 22}, {998, 1018}, {999, 1019}, {1000, 1019}};
        for (int[] pair : due) {
            HardwareTaskQueue q = Check.queue(1,
                    "queue 2 4 20;task 7 3 core 1;length " + pair[0] + ";");
            q.run(1);
            Check.equal("stolen with length " + pair[0], q.remaining(0), pair[1]);
        }
        HardwareTaskQueue longest = Check.queue(1, "queue 2 4 20;task 7 3 core 1;length 9999;");
        for (int i = 0; i < 5; i++) {
            longest.run(200);
        }
        Check.equal("before its end", longest.run(19), 0);
        Check.equal("remaining", longest.remaining(0), 1);
        Check.equal("at its end", longest.run(1), 1);
        Check.equal("doneAt", longest.doneAt(0), 1019);
    }

    private static void whenTaken() {
        Check.about("... when the task is taken.");
        HardwareTaskQueue q = Check.queue(2, "queue 1 4 0;task 1 9;task 1 8;length priority+1;");
        q.run(1);
        q.setPriority(0, 0);
        Check.equal("not changed after it was taken", q.remaining(0), 10);
        q.run(9);
        q.setPriority(1, 4);
        q.run(1);
        Check.equal("the priority of the cycle in which it is taken", q.remaining(0), 5);
    }

    private static void durationAndPriority() {
        Check.about("In the expression, duration and priority are those of the task, ...");
        int[][] tasks = {{1, 0}, {1, 9}, {99, 0}, {99, 9}, {50, 5}};
        for (int[] task : tasks) {
            HardwareTaskQueue q = Check.queue(1, "queue 1 4 0;task " + task[0] + " " + task[1]
                    + ";length 10*priority+duration;");
            q.run(1);
            Check.equal("length", q.remaining(0), 10 * task[1] + task[0]);
        }
        HardwareTaskQueue two = Check.queue(2,
                "queue 2 4 0;task 11 3;task 22 4;length 10*duration+priority;");
        two.run(1);
        Check.equal("task 0", two.remaining(0), 113);
        Check.equal("task 1", two.remaining(1), 224);
    }

    private static void core() {
        Check.about("... core is the core that runs it, ...");
        HardwareTaskQueue q = Check.queue(4, "queue 4 4 0;task 1 1;task 1 1;task 1 1;task 1 1;"
                + "length 100*core+5;");
        q.run(1);
        for (int c = 0; c < 4; c++) {
            Check.equal("on core " + c, q.remaining(c), 100 * c + 5);
        }
        HardwareTaskQueue stolen = Check.queue(2,
                "queue 4 4 0;task 1 1 core 2;task 1 1 core 2;length 100*core+5;");
        stolen.pause(0, true);
        stolen.run(1);
        Check.equal("not the home core", stolen.remaining(1), 105);
        Check.equal("the home core itself", stolen.remaining(2), 205);
    }

    private static void load() {
        Check.about("... and load is the number of tasks that remain in the queue of this core.");
        for (int tasks = 1; tasks <= 8; tasks++) {
            HardwareTaskQueue q = Check.queue(tasks,
                    "queue 1 8 0;" + "task 1 1;".repeat(tasks) + "length load+10;");
            q.run(1);
            Check.equal("length with " + tasks + " tasks", q.remaining(0), 9 + tasks);
            Check.equal("queueLength", q.queueLength(0), tasks - 1);
        }
        // A task that is put into the queue in the same cycle counts, one in another queue not.
        HardwareTaskQueue q = Check.queue(2, "queue 1 8 0;task 1 1;task 1 1 after 0;length load+5;");
        q.run(5);
        q.submit(1, 0, 0);
        q.run(1);
        Check.equal("running", q.running(0), 1);
        Check.equal("length", q.remaining(0), 6);
    }

    private static void loadOfThief() {
        Check.about("... and load is the number of tasks that remain in the queue of this core.");
        HardwareTaskQueue q = Check.queue(8,
                "queue 2 8 3;" + "task 1 1 core 1;".repeat(8) + "length 10*load+1;");
        q.run(1);
        Check.equal("the thief's own queue is empty", q.remaining(0), 1 + 3);
        Check.equal("the owner has what the thief left", q.remaining(1), 61);
    }

    private static void divisionByZero() {
        Check.about("Division by 0 gives 0.");
        length("10+5/0", 10);
        length("10+5/1", 15);
        length("10+5/(0-1)", 5);
        length("10+0/0", 10);
        length("10+(0-5)/0", 10);
        length("10+5/0*3", 10);
        length("10+5/(5/0)", 10);
        length("10+1000*1000/core", 10);
        length("10+duration/load", 10);
        length("10+duration/(priority-3)", 10);
        length("10+duration/(priority-2)", 17);
        length("10+duration/(priority-4)", 3);
    }

    /** 9995*100 is subtracted from what is near 1000000, so that a length of about 500 tells it. */
    private static void limitedSums() {
        Check.about("The result of each operation is limited to the range -1000000 to 1000000.");
        length("999*1001+0-9995*100", 499);
        length("999*1001+1-9995*100", 500);
        length("999*1001+2-9995*100", 500);
        length("1000*1000+1-9995*100", 500);
        length("1000*1000+1000*1000-9995*100", 500);
        length("(0-1000*1000)+(0-1)+9995*100+1000", 500);
        length("(0-999*1001)+(0-1)+9995*100+1000", 500);
        length("(0-999*1001)+(0-0)+9995*100+1000", 501);
        length("(0-999*1001)+(0-2)+9995*100+1000", 500);
    }

    private static void limitedDifferences() {
        Check.about("The result of each operation is limited to the range -1000000 to 1000000.");
        length("0-999*1001-0+9995*100+1000", 501);
        length("0-999*1001-1+9995*100+1000", 500);
        length("0-999*1001-2+9995*100+1000", 500);
        length("0-1000*1000-1000*1000+9995*100+1000", 500);
        length("999*1001-(0-1)-9995*100", 500);
        length("999*1001-(0-2)-9995*100", 500);
        length("1000*1000-(0-1000*1000)-9995*100", 500);
    }

    private static void limitedProducts() {
        Check.about("The result of each operation is limited to the range -1000000 to 1000000.");
        length("999*1001-9995*100", 499);
        length("1000*1000-9995*100", 500);
        length("101*9901-9995*100", 500);
        length("9999*9999-9995*100", 500);
        length("1000*1000*(1000*1000)-9995*100", 500);
        length("(0-999)*1001+9995*100+1000", 501);
        length("(0-1000)*1000+9995*100+1000", 500);
        length("(0-101)*9901+9995*100+1000", 500);
        length("9999*(0-9999)+9995*100+1000", 500);
        length("(0-1000*1000)*(1000*1000)+9995*100+1000", 500);
        length("(0-1000*1000)*(0-1000*1000)-9995*100", 500);
    }

    private static void limitedQuotients() {
        Check.about("The result of each operation is limited to the range -1000000 to 1000000.");
        length("1000*1000/1-9995*100", 500);
        length("1000*1000/(0-1)+9995*100+1000", 500);
        length("(0-1000*1000)/(0-1)-9995*100", 500);
        length("1000*1000/(1000*1000)", 1);
        length("5+(0-1000*1000)/(1000*1000)", 4);
    }

    private static void eachOperation() {
        Check.about("The result of each operation is limited to the range -1000000 to 1000000.");
        // With the last result limited alone this would be 999.
        length("9999*9999/5000", 200);
        length("(9999*9999)-(9999*9999)+7", 7);
        length("9999*200/(9999*100)", 1);
        length("(5000*200+5000*200)/4000", 250);
        // A number is no operation, and 9999 is within the range.
        length("9999/11", 909);
    }

    private static void smallestNumber() {
        Check.about("A number as a factor is 0 to 9999.");
        for (int number : new int[] {0, 1}) {
            HardwareTaskQueue q = Check.queue(8,
                    "queue 1 8 0;" + "task 9 5;".repeat(8) + "length 10+" + number + ";");
            q.run(1);
            Check.equal("it is no word's value", q.remaining(0), 10 + number);
        }
        length("9999-9998", 1);
        length("9999-9990", 9);
    }

    /** On each level a sum and a product wait for what stands in the parentheses. */
    private static void deepest() {
        Check.about("Parentheses nest at most 4 deep.");
        length("1+2*(1+2*(1+2*(1+2*3)))", 63);
        length("1+2*(1+2*(1+2*(1+2*(1+2*3))))", 127);
        length("((((3*2+1)*2+1)*2+1)*2+1)*2+1", 127);
        length("1+2*(1+2*(1+2*(1+2*(1+2*3))))+1+2*(1+2*(1+2*(1+2*(1+2*3))))", 254);
        length("900-2*(100-2*(50-2*(20-2*(7-2*3))))", 900 - 2 * (100 - 2 * (50 - 2 * 18)));
        length("900-512/(2*(64/(2*3)))", 875);
    }

    private static void withoutLength() {
        Check.about("Without a length statement the length is the duration.");
        for (int duration : new int[] {1, 2, 98, 99}) {
            HardwareTaskQueue q = Check.queue(1, "queue 1 4 20;task " + duration + " 9;");
            q.run(1);
            Check.equal("length", q.remaining(0), duration);
        }
        HardwareTaskQueue q = Check.queue(1, "queue 1 4 20;task 8 9;length 5;");
        Check.load(q, "queue 1 4 20;task 8 9;");
        q.run(1);
        Check.equal("a later load without it", q.remaining(0), 8);
    }
}
