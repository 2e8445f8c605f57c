import java.util.Arrays;

/**
 * A hardware task queue: cores with bounded queues, tasks with dependency counters, fences, and
 * work stealing, simulated cycle by cycle.
 *
 * <p>All tables are made with the object and used again, so that no call but a successful load
 * makes anything new.
 */
public final class HardwareTaskQueue {
    public static final int SYNTAX_ERROR = -2;
    public static final int OUT_OF_RANGE = -3;
    public static final int TOO_MANY = -4;
    public static final int TOO_DEEP = -5;
    public static final int WAITING = 0;
    public static final int READY = 1;
    public static final int QUEUED = 2;
    public static final int RUNNING = 3;
    public static final int DONE = 4;
    public static final int CANCELLED = 5;

    private static final int MAX_BYTES = 900;
    private static final int BYTES_AT_ONCE = 20;
    private static final int MAX_CORES = 4;
    private static final int MAX_CAPACITY = 8;
    private static final int MAX_STEAL_COST = 20;
    private static final int MAX_TASKS = 32;
    private static final int MAX_FENCES = 8;
    private static final int MAX_DURATION = 99;
    private static final int MAX_PRIORITY = 9;
    private static final int MAX_FACTOR = 9999;
    private static final int MAX_DEPTH = 4;
    private static final int MAX_LENGTH = 999;
    private static final int MAX_RESULT = 1000000;
    private static final int MAX_CHANGES = 8;
    private static final int MAX_LIMIT = 500;
    private static final int MAX_CYCLES = 200;
    private static final int MAX_CLOCK = 100000;
    private static final int NONE = -1;

    private final SetupReader reader = new SetupReader();
    private final Machine present = new Machine();
    /** Setups are read into it and predictions run on it, so that the present stays untouched. */
    private final Machine spare = new Machine();
    private final History history = new History();
    private int errorPlace = NONE;

    public HardwareTaskQueue() {
    }

    public int append(int w0, int w1, int w2, int w3, int w4) {
        SetupText text = reader.text;
        if (text.size > MAX_BYTES - BYTES_AT_ONCE) {
            return -1;
        }
        text.addWord(w0);
        text.addWord(w1);
        text.addWord(w2);
        text.addWord(w3);
        text.addWord(w4);
        return text.size;
    }

    public int load(int length) throws IllegalArgumentException {
        if (length < 0 || length > reader.text.size) {
            throw new IllegalArgumentException("length is not within the buffer");
        }
        boolean correct = reader.readSetup(length, spare);
        reader.text.size = 0;
        if (!correct) {
            errorPlace = reader.failurePlace;
            return reader.failure;
        }
        errorPlace = NONE;
        history.remember(present);
        present.copyFrom(spare);
        return present.tasks.total;
    }

    public int errorOffset() {
        return errorPlace;
    }

    public int coreCount() {
        return present.cores.total;
    }

    public int taskCount() {
        return present.tasks.total;
    }

    public int fenceCount() {
        return present.tasks.fences;
    }

    public int clock() {
        return present.time;
    }

    public int state(int task) throws IndexOutOfBoundsException {
        requireTask(task);
        return present.tasks.states[task];
    }

    public int counter(int task) throws IndexOutOfBoundsException {
        requireTask(task);
        return present.tasks.counterOf(task, present.tasks.unfinishedBits());
    }

    public int priority(int task) throws IndexOutOfBoundsException {
        requireTask(task);
        return present.tasks.priorities[task];
    }

    public int coreOf(int task) throws IndexOutOfBoundsException {
        requireTask(task);
        return present.tasks.ranOn[task];
    }

    public int doneAt(int task) throws IndexOutOfBoundsException {
        requireTask(task);
        return present.tasks.doneTimes[task];
    }

    public boolean isOpen(int fence) throws IndexOutOfBoundsException {
        if (fence < 0 || fence >= present.tasks.fences) {
            throw new IndexOutOfBoundsException("no such fence");
        }
        return present.tasks.opens(fence, present.tasks.unfinishedBits());
    }

    public int queueLength(int core) throws IndexOutOfBoundsException {
        requireCore(core);
        return present.cores.sizes[core];
    }

    public int queued(int core, int k) throws IndexOutOfBoundsException {
        requireCore(core);
        if (k < 0 || k >= present.cores.sizes[core]) {
            throw new IndexOutOfBoundsException("no such place in the queue");
        }
        return present.cores.queues[core * MAX_CAPACITY + k];
    }

    public int running(int core) throws IndexOutOfBoundsException {
        requireCore(core);
        return present.cores.current[core];
    }

    public int remaining(int core) throws IndexOutOfBoundsException {
        requireCore(core);
        return present.cores.timesLeft[core];
    }

    public int busy(int core) throws IndexOutOfBoundsException {
        requireCore(core);
        return present.cores.busyCycles[core];
    }

    public int steals(int core) throws IndexOutOfBoundsException {
        requireCore(core);
        return present.cores.stolen[core];
    }

    public boolean isPaused(int core) throws IndexOutOfBoundsException {
        requireCore(core);
        return present.cores.paused[core];
    }

    public int finished() {
        return present.tasks.finishedTotal();
    }

    public int criticalPath() {
        return present.tasks.longestChain();
    }

    public int finishTime(int limit) throws IllegalArgumentException {
        requireLimit(limit);
        spare.copyFrom(present);
        return spare.cyclesUntilFinished(limit);
    }

    public int timeOn(int cores, int limit)
            throws IllegalArgumentException, IllegalStateException {
        if (cores < 1 || cores > MAX_CORES) {
            throw new IllegalArgumentException("cores is not 1 to 4");
        }
        requireLimit(limit);
        requireSetup();
        spare.copyFrom(present);
        spare.startAgainOn(cores);
        return spare.cyclesUntilFinished(limit);
    }

    public int run(int cycles) throws IllegalArgumentException, IllegalStateException {
        if (cycles < 1 || cycles > MAX_CYCLES) {
            throw new IllegalArgumentException("cycles is not 1 to 200");
        }
        requireSetup();
        if (present.time > MAX_CLOCK - cycles) {
            throw new IllegalStateException("the clock would exceed 100000");
        }
        history.remember(present);
        int done = 0;
        for (int i = 0; i < cycles; i++) {
            done += present.cycle();
        }
        return done;
    }

    public int submit(int duration, int priority, int core)
            throws IndexOutOfBoundsException, IllegalArgumentException, IllegalStateException {
        requireCore(core);
        if (duration < 1 || duration > MAX_DURATION) {
            throw new IllegalArgumentException("duration is not 1 to 99");
        }
        requirePriority(priority);
        if (present.tasks.total >= MAX_TASKS) {
            throw new IllegalStateException("there are 32 tasks");
        }
        history.remember(present);
        present.tasks.add(duration, priority, core, 0);
        return present.tasks.total - 1;
    }

    public int depend(int task, int on)
            throws IndexOutOfBoundsException, IllegalArgumentException, IllegalStateException {
        requireTask(task);
        if (on < 0) {
            throw new IndexOutOfBoundsException("no such task to depend on");
        }
        TaskTable tasks = present.tasks;
        if (on >= task || hasBit(tasks.predecessors[task], on)) {
            throw new IllegalArgumentException("not an earlier task, or a predecessor already");
        }
        if (tasks.states[task] != WAITING) {
            throw new IllegalStateException("the task is not WAITING");
        }
        history.remember(present);
        tasks.predecessors[task] |= 1 << on;
        return tasks.counterOf(task, tasks.unfinishedBits());
    }

    public int cancel(int task) throws IndexOutOfBoundsException, IllegalStateException {
        requireTask(task);
        int before = present.tasks.states[task];
        if (before != WAITING && before != READY && before != QUEUED) {
            throw new IllegalStateException("the task is RUNNING, DONE or CANCELLED");
        }
        history.remember(present);
        present.cores.removeFromQueues(task);
        present.tasks.states[task] = CANCELLED;
        return before;
    }

    public int setPriority(int task, int priority)
            throws IndexOutOfBoundsException, IllegalArgumentException {
        requireTask(task);
        requirePriority(priority);
        history.remember(present);
        int before = present.tasks.priorities[task];
        present.tasks.priorities[task] = priority;
        return before;
    }

    public boolean pause(int core, boolean paused) throws IndexOutOfBoundsException {
        requireCore(core);
        history.remember(present);
        boolean before = present.cores.paused[core];
        present.cores.paused[core] = paused;
        return before;
    }

    public int undo() {
        return history.restoreLatest(present);
    }

    public long checksum() {
        TaskTable tasks = present.tasks;
        CoreTable cores = present.cores;
        long sum = 31L * present.time + tasks.finishedTotal();
        int unfinished = tasks.unfinishedBits();
        for (int t = 0; t < tasks.total; t++) {
            sum = 31 * sum + tasks.states[t];
            sum = 31 * sum + tasks.priorities[t];
            sum = 31 * sum + tasks.counterOf(t, unfinished);
        }
        for (int c = 0; c < cores.total; c++) {
            for (int k = 0; k < cores.sizes[c]; k++) {
                sum = 31 * sum + cores.queues[c * MAX_CAPACITY + k];
            }
            sum = 31 * sum + cores.current[c];
            sum = 31 * sum + cores.timesLeft[c];
            sum = 31 * sum + cores.busyCycles[c];
            sum = 31 * sum + cores.stolen[c];
        }
        return sum;
    }

    private void requireTask(int task) {
        if (task < 0 || task >= present.tasks.total) {
            throw new IndexOutOfBoundsException("no such task");
        }
    }

    private void requireCore(int core) {
        if (core < 0 || core >= present.cores.total) {
            throw new IndexOutOfBoundsException("no such core");
        }
    }

    private void requireSetup() {
        if (present.cores.total == 0) {
            throw new IllegalStateException("no setup has been loaded");
        }
    }

    private static void requirePriority(int priority) {
        if (priority < 0 || priority > MAX_PRIORITY) {
            throw new IllegalArgumentException("priority is not 0 to 9");
        }
    }

    private static void requireLimit(int limit) {
        if (limit < 0 || limit > MAX_LIMIT) {
            throw new IllegalArgumentException("limit is not 0 to 500");
        }
    }

    /** A shift looks at five bits of its count alone, so the index is tested first. */
    private static boolean hasBit(int bits, int index) {
        return index >= 0 && index < MAX_TASKS && (bits >>> index & 1) != 0;
    }

    /** The tasks and fences. A set of tasks is an int with a bit for each. */
    private static final class TaskTable {
        int total = 0;
        int fences = 0;
        final int[] states = new int[MAX_TASKS];
        final int[] durations = new int[MAX_TASKS];
        final int[] priorities = new int[MAX_TASKS];
        final int[] homes = new int[MAX_TASKS];
        final int[] predecessors = new int[MAX_TASKS];
        final int[] ranOn = new int[MAX_TASKS];
        final int[] doneTimes = new int[MAX_TASKS];
        /** For each fence how many tasks are before it. */
        final int[] fencePlaces = new int[MAX_FENCES];
        /** Scratch of longestChain; no part of the state. */
        private final int[] chains = new int[MAX_TASKS];

        void copyFrom(TaskTable other) {
            total = other.total;
            fences = other.fences;
            System.arraycopy(other.states, 0, states, 0, MAX_TASKS);
            System.arraycopy(other.durations, 0, durations, 0, MAX_TASKS);
            System.arraycopy(other.priorities, 0, priorities, 0, MAX_TASKS);
            System.arraycopy(other.homes, 0, homes, 0, MAX_TASKS);
            System.arraycopy(other.predecessors, 0, predecessors, 0, MAX_TASKS);
            System.arraycopy(other.ranOn, 0, ranOn, 0, MAX_TASKS);
            System.arraycopy(other.doneTimes, 0, doneTimes, 0, MAX_TASKS);
            System.arraycopy(other.fencePlaces, 0, fencePlaces, 0, MAX_FENCES);
        }

        void add(int duration, int priority, int home, int before) {
            if (total >= MAX_TASKS) {
                return;
            }
            states[total] = WAITING;
            durations[total] = duration;
            priorities[total] = priority;
            homes[total] = home;
            predecessors[total] = before;
            ranOn[total] = NONE;
            doneTimes[total] = NONE;
            total++;
        }

        void addFence() {
            if (fences < MAX_FENCES) {
                fencePlaces[fences] = total;
                fences++;
            }
        }

        void startAgainOn(int cores) {
            for (int t = 0; t < total; t++) {
                if (states[t] != CANCELLED) {
                    states[t] = WAITING;
                }
                if (cores > 0) {
                    homes[t] = homes[t] % cores;
                }
            }
        }

        int unfinishedBits() {
            int bits = 0;
            for (int t = 0; t < total; t++) {
                if (states[t] != DONE && states[t] != CANCELLED) {
                    bits |= 1 << t;
                }
            }
            return bits;
        }

        int finishedTotal() {
            return total - Integer.bitCount(unfinishedBits());
        }

        boolean opens(int fence, int unfinished) {
            int place = fencePlaces[fence];
            int before = place < MAX_TASKS ? (1 << place) - 1 : -1;
            return (unfinished & before) == 0;
        }

        int counterOf(int task, int unfinished) {
            int count = Integer.bitCount(predecessors[task] & unfinished);
            for (int f = 0; f < fences; f++) {
                if (fencePlaces[f] <= task && !opens(f, unfinished)) {
                    count++;
                }
            }
            return count;
        }

        /** The greatest sum of durations along a chain of unfinished tasks. */
        int longestChain() {
            int unfinished = unfinishedBits();
            int longest = 0;
            for (int t = 0; t < total; t++) {
                chains[t] = 0;
                if (hasBit(unfinished, t)) {
                    chains[t] = durations[t] + longestChainBefore(t);
                    longest = Math.max(longest, chains[t]);
                }
            }
            return longest;
        }

        private int longestChainBefore(int task) {
            int fenced = 0;
            for (int f = 0; f < fences; f++) {
                if (fencePlaces[f] <= task) {
                    fenced = fencePlaces[f];
                }
            }
            int longest = 0;
            for (int t = 0; t < task; t++) {
                if (t < fenced || hasBit(predecessors[task], t)) {
                    longest = Math.max(longest, chains[t]);
                }
            }
            return longest;
        }

        void readyAllFree() {
            int unfinished = unfinishedBits();
            for (int t = 0; t < total; t++) {
                if (states[t] == WAITING && counterOf(t, unfinished) == 0) {
                    states[t] = READY;
                }
            }
        }

        /** The READY task that is treated first; NONE if no task is READY. */
        int firstReady() {
            int best = NONE;
            for (int t = 0; t < total; t++) {
                if (states[t] == READY && (best < 0 || priorities[t] > priorities[best])) {
                    best = t;
                }
            }
            return best;
        }
    }

    /** The cores with their queues; a core's queue is a row of MAX_CAPACITY places. */
    private static final class CoreTable {
        int total = 0;
        int capacity = 0;
        int stealCost = 0;
        final int[] queues = new int[MAX_CORES * MAX_CAPACITY];
        final int[] sizes = new int[MAX_CORES];
        /** The task that each core runs, or NONE. */
        final int[] current = new int[MAX_CORES];
        final int[] timesLeft = new int[MAX_CORES];
        final int[] busyCycles = new int[MAX_CORES];
        final int[] stolen = new int[MAX_CORES];
        final boolean[] paused = new boolean[MAX_CORES];

        void copyFrom(CoreTable other) {
            total = other.total;
            capacity = other.capacity;
            stealCost = other.stealCost;
            System.arraycopy(other.queues, 0, queues, 0, MAX_CORES * MAX_CAPACITY);
            for (int c = 0; c < MAX_CORES; c++) {
                sizes[c] = other.sizes[c];
                current[c] = other.current[c];
                timesLeft[c] = other.timesLeft[c];
                busyCycles[c] = other.busyCycles[c];
                stolen[c] = other.stolen[c];
                paused[c] = other.paused[c];
            }
        }

        void startAgainOn(int cores) {
            total = Math.min(cores, MAX_CORES);
            for (int c = 0; c < MAX_CORES; c++) {
                sizes[c] = 0;
                current[c] = NONE;
                timesLeft[c] = 0;
                busyCycles[c] = 0;
                stolen[c] = 0;
                paused[c] = false;
            }
        }

        /** The queue that takes a task of this home core; NONE if all queues are full. */
        int queueFor(int home) {
            if (home >= 0 && home < total && sizes[home] < capacity) {
                return home;
            }
            int shortest = NONE;
            for (int c = 0; c < total; c++) {
                if (sizes[c] < capacity && (shortest < 0 || sizes[c] < sizes[shortest])) {
                    shortest = c;
                }
            }
            return shortest;
        }

        void putLast(int core, int task) {
            if (sizes[core] < MAX_CAPACITY) {
                queues[core * MAX_CAPACITY + sizes[core]] = task;
                sizes[core]++;
            }
        }

        /** Takes out the task at place k of a queue; NONE if there is no such place. */
        int takeAt(int core, int k) {
            if (k < 0 || k >= sizes[core]) {
                return NONE;
            }
            int row = core * MAX_CAPACITY;
            int task = queues[row + k];
            for (int i = k + 1; i < sizes[core]; i++) {
                queues[row + i - 1] = queues[row + i];
            }
            sizes[core]--;
            return task;
        }

        void removeFromQueues(int task) {
            for (int c = 0; c < total; c++) {
                for (int k = sizes[c] - 1; k >= 0; k--) {
                    if (queues[c * MAX_CAPACITY + k] == task) {
                        takeAt(c, k);
                    }
                }
            }
        }

        int longestQueue() {
            int longest = 0;
            for (int c = 1; c < total; c++) {
                if (sizes[c] > sizes[longest]) {
                    longest = c;
                }
            }
            return longest;
        }

        void countBusy() {
            for (int c = 0; c < total; c++) {
                if (current[c] >= 0) {
                    busyCycles[c]++;
                }
            }
        }
    }

    /** The length expression in postfix order; it never changes, so that machines share it. */
    private static final class Formula {
        /** A step from 0 on is a number, those below are variables, from ADD down operators. */
        static final int DURATION = -1;
        static final int PRIORITY = -2;
        static final int CORE = -3;
        static final int LOAD = -4;
        static final int ADD = -5;
        static final int SUBTRACT = -6;
        static final int MULTIPLY = -7;
        static final int DIVIDE = -8;
        /** On each level of parentheses a sum and a product can wait for their next operand. */
        static final int STACK_SIZE = 2 * (MAX_DEPTH + 1) + 1;

        private final int[] steps;
        private final int[] stack = new int[STACK_SIZE];

        Formula(int[] steps) {
            this.steps = steps;
        }

        int lengthFor(int duration, int priority, int core, int load) {
            int top = 0;
            for (int i = 0; i < steps.length; i++) {
                int step = steps[i];
                if (step <= ADD) {
                    if (top >= 2) {
                        top--;
                        stack[top - 1] = result(step, stack[top - 1], stack[top]);
                    }
                } else if (top < STACK_SIZE) {
                    stack[top] = step >= 0 ? step
                            : step == DURATION ? duration
                            : step == PRIORITY ? priority
                            : step == CORE ? core : load;
                    top++;
                }
            }
            return Math.max(1, Math.min(MAX_LENGTH, stack[0]));
        }

        private static int result(int operator, long left, long right) {
            long value = 0;
            if (operator == ADD) {
                value = left + right;
            } else if (operator == SUBTRACT) {
                value = left - right;
            } else if (operator == MULTIPLY) {
                value = left * right;
            } else if (right != 0) {
                value = left / right;
            }
            return (int) Math.max(-MAX_RESULT, Math.min(MAX_RESULT, value));
        }
    }

    /** All data that a change can alter and undo restores. */
    private static final class Machine {
        final TaskTable tasks = new TaskTable();
        final CoreTable cores = new CoreTable();
        Formula formula = new Formula(new int[] {Formula.DURATION});
        int time = 0;

        void copyFrom(Machine other) {
            tasks.copyFrom(other.tasks);
            cores.copyFrom(other.cores);
            formula = other.formula;
            time = other.time;
        }

        void startAgainOn(int coreTotal) {
            tasks.startAgainOn(coreTotal);
            cores.startAgainOn(coreTotal);
            time = 0;
        }

        /** The number of cycles, 0 to limit, until all tasks are finished; -1 if it is greater. */
        int cyclesUntilFinished(int limit) {
            for (int n = 0; n <= limit; n++) {
                if (tasks.unfinishedBits() == 0) {
                    return n;
                }
                cycle();
            }
            return -1;
        }

        /** Simulates one cycle; answers how many tasks became DONE in it. */
        int cycle() {
            int done = finishTasks();
            tasks.readyAllFree();
            queueTasks();
            startTasks();
            cores.countBusy();
            time++;
            return done;
        }

        private int finishTasks() {
            int done = 0;
            for (int c = 0; c < cores.total; c++) {
                int task = cores.current[c];
                if (task >= 0) {
                    cores.timesLeft[c]--;
                    if (cores.timesLeft[c] == 0) {
                        tasks.states[task] = DONE;
                        tasks.doneTimes[task] = time;
                        cores.current[c] = NONE;
                        done++;
                    }
                }
            }
            return done;
        }

        private void queueTasks() {
            for (int n = 0; n < MAX_TASKS; n++) {
                int task = tasks.firstReady();
                if (task < 0) {
                    return;
                }
                int core = cores.queueFor(tasks.homes[task]);
                if (core < 0) {
                    return;
                }
                cores.putLast(core, task);
                tasks.states[task] = QUEUED;
            }
        }

        private void startTasks() {
            for (int c = 0; c < cores.total; c++) {
                if (!cores.paused[c] && cores.current[c] < 0) {
                    startTask(c);
                }
            }
        }

        private void startTask(int core) {
            boolean stealing = cores.sizes[core] == 0;
            int source = stealing ? cores.longestQueue() : core;
            int task = cores.takeAt(source, stealing ? cores.sizes[source] - 1 : 0);
            if (task < 0) {
                return;
            }
            int length = formula.lengthFor(
                    tasks.durations[task], tasks.priorities[task], core, cores.sizes[core]);
            tasks.states[task] = RUNNING;
            tasks.ranOn[task] = core;
            cores.current[core] = task;
            cores.timesLeft[core] = length;
            if (stealing) {
                cores.timesLeft[core] += cores.stealCost;
                cores.stolen[core]++;
            }
        }
    }

    /** The machines before the latest changes, in a ring of which the oldest is written over. */
    private static final class History {
        private final Machine[] kept = new Machine[MAX_CHANGES];
        private int next = 0;
        private int count = 0;

        History() {
            for (int i = 0; i < MAX_CHANGES; i++) {
                kept[i] = new Machine();
            }
        }

        void remember(Machine machine) {
            kept[next].copyFrom(machine);
            next = next + 1 < MAX_CHANGES ? next + 1 : 0;
            count = Math.min(count + 1, MAX_CHANGES);
        }

        /** Answers how many machines are left; -1 if there was none. */
        int restoreLatest(Machine machine) {
            if (count == 0) {
                return -1;
            }
            next = next > 0 ? next - 1 : MAX_CHANGES - 1;
            machine.copyFrom(kept[next]);
            count--;
            return count;
        }
    }

    /** The input buffer, and the token of it that is read at present. */
    private static final class SetupText {
        static final int END = 0;
        static final int NUMBER = 1;
        static final int WORD = 2;
        static final int MARK = 3;
        /** Above all ranges, and small enough that ten times as much is an int. */
        static final int HUGE_NUMBER = 1000000;

        private final byte[] bytes = new byte[MAX_BYTES];
        int size = 0;
        private int end = 0;
        int kind = END;
        int start = 0;
        private int behind = 0;
        int number = 0;

        void addWord(int word) {
            for (int shift = 24; shift >= 0; shift -= 8) {
                if (size < MAX_BYTES) {
                    bytes[size] = (byte) (word >>> shift);
                    size++;
                }
            }
        }

        void startReading(int length) {
            end = Math.min(length, MAX_BYTES);
            behind = 0;
            advance();
        }

        /** Goes to the next token; a byte that begins neither number nor word is a mark. */
        void advance() {
            start = behind;
            while (start < end && bytes[start] == ' ') {
                start++;
            }
            behind = start;
            number = 0;
            while (behind < end && bytes[behind] >= '0' && bytes[behind] <= '9') {
                if (number < HUGE_NUMBER) {
                    number = 10 * number + (bytes[behind] - '0');
                }
                behind++;
            }
            if (behind > start) {
                kind = NUMBER;
                return;
            }
            while (behind < end && bytes[behind] >= 'a' && bytes[behind] <= 'z') {
                behind++;
            }
            if (behind > start) {
                kind = WORD;
            } else if (start < end) {
                kind = MARK;
                behind = start + 1;
            } else {
                kind = END;
            }
        }

        boolean isWord(String word) {
            if (kind != WORD || behind - start != word.length()) {
                return false;
            }
            for (int i = 0; i < word.length(); i++) {
                if (bytes[start + i] != word.charAt(i)) {
                    return false;
                }
            }
            return true;
        }

        boolean isMark(char mark) {
            return kind == MARK && bytes[start] == mark;
        }
    }

    /**
     * Reads setup texts by recursive descent. As the text is read from left to right and each token
     * is tested for the kinds of error in the document's order, the first failure is the one due.
     */
    private static final class SetupReader {
        private static final int FAILED = -1;

        final SetupText text = new SetupText();
        int failure = 0;
        int failurePlace = NONE;
        private final int[] steps = new int[MAX_BYTES];
        private int stepTotal = 0;
        private boolean lengthSeen = false;

        /** Reads the first bytes of the text into a machine; answers whether they are correct. */
        boolean readSetup(int length, Machine into) {
            lengthSeen = false;
            stepTotal = 0;
            addStep(Formula.DURATION);
            text.startReading(length);
            if (!readQueue(into)) {
                return false;
            }
            for (int n = 0; n < MAX_BYTES && text.kind != SetupText.END; n++) {
                if (!readStatement(into) || !takeMark(';')) {
                    return false;
                }
            }
            into.formula = new Formula(Arrays.copyOf(steps, stepTotal));
            return true;
        }

        private boolean readQueue(Machine into) {
            if (!text.isWord("queue")) {
                return fail(SYNTAX_ERROR);
            }
            text.advance();
            int cores = takeNumber(1, MAX_CORES);
            int capacity = cores < 0 ? FAILED : takeNumber(1, MAX_CAPACITY);
            int stealCost = capacity < 0 ? FAILED : takeNumber(0, MAX_STEAL_COST);
            if (stealCost < 0 || !takeMark(';')) {
                return false;
            }
            into.tasks.total = 0;
            into.tasks.fences = 0;
            into.startAgainOn(cores);
            into.cores.capacity = capacity;
            into.cores.stealCost = stealCost;
            return true;
        }

        private boolean readStatement(Machine into) {
            if (text.isWord("task")) {
                return readTask(into.tasks, into.cores.total);
            }
            if (text.isWord("fence")) {
                if (into.tasks.fences >= MAX_FENCES) {
                    return fail(TOO_MANY);
                }
                text.advance();
                into.tasks.addFence();
                return true;
            }
            if (!text.isWord("length") || lengthSeen) {
                return fail(SYNTAX_ERROR);
            }
            text.advance();
            lengthSeen = true;
            stepTotal = 0;
            return readSum(0);
        }

        private boolean readTask(TaskTable tasks, int cores) {
            if (tasks.total >= MAX_TASKS) {
                return fail(TOO_MANY);
            }
            text.advance();
            int duration = takeNumber(1, MAX_DURATION);
            int priority = duration < 0 ? FAILED : takeNumber(0, MAX_PRIORITY);
            if (priority < 0) {
                return false;
            }
            int home = cores > 0 ? tasks.total % cores : 0;
            if (text.isWord("core")) {
                text.advance();
                home = takeNumber(0, cores - 1);
            }
            int before = 0;
            if (home >= 0 && text.isWord("after")) {
                text.advance();
                before = takePredecessors(tasks.total);
            }
            if (home < 0 || before < 0) {
                return false;
            }
            tasks.add(duration, priority, home, before);
            return true;
        }

        /** The set of the tasks that are named; it is not negative, for task 31 is never in it. */
        private int takePredecessors(int task) {
            int set = 0;
            for (int n = 0; n == 0 || n < MAX_TASKS && text.kind == SetupText.NUMBER; n++) {
                if (text.kind == SetupText.NUMBER && hasBit(set, text.number)) {
                    fail(OUT_OF_RANGE);
                    return FAILED;
                }
                int predecessor = takeNumber(0, task - 1);
                if (predecessor < 0) {
                    return FAILED;
                }
                set |= 1 << predecessor;
            }
            return set;
        }

        private boolean readSum(int depth) {
            boolean correct = readTerm(depth);
            for (int n = 0; n < MAX_BYTES && correct; n++) {
                boolean plus = text.isMark('+');
                if (!plus && !text.isMark('-')) {
                    return true;
                }
                text.advance();
                correct = readTerm(depth);
                addStep(plus ? Formula.ADD : Formula.SUBTRACT);
            }
            return correct;
        }

        private boolean readTerm(int depth) {
            boolean correct = readFactor(depth);
            for (int n = 0; n < MAX_BYTES && correct; n++) {
                boolean times = text.isMark('*');
                if (!times && !text.isMark('/')) {
                    return true;
                }
                text.advance();
                correct = readFactor(depth);
                addStep(times ? Formula.MULTIPLY : Formula.DIVIDE);
            }
            return correct;
        }

        private boolean readFactor(int depth) {
            if (text.kind == SetupText.NUMBER) {
                addStep(text.number);
                return takeNumber(0, MAX_FACTOR) >= 0;
            }
            if (text.isMark('(')) {
                if (depth >= MAX_DEPTH) {
                    return fail(TOO_DEEP);
                }
                text.advance();
                return readSum(depth + 1) && takeMark(')');
            }
            if (text.isWord("duration")) {
                addStep(Formula.DURATION);
            } else if (text.isWord("priority")) {
                addStep(Formula.PRIORITY);
            } else if (text.isWord("core")) {
                addStep(Formula.CORE);
            } else if (text.isWord("load")) {
                addStep(Formula.LOAD);
            } else {
                return fail(SYNTAX_ERROR);
            }
            text.advance();
            return true;
        }

        /** Answers the number; FAILED if there is none from low to high. */
        private int takeNumber(int low, int high) {
            int number = text.number;
            if (text.kind != SetupText.NUMBER) {
                fail(SYNTAX_ERROR);
                return FAILED;
            }
            if (number < low || number > high) {
                fail(OUT_OF_RANGE);
                return FAILED;
            }
            text.advance();
            return number;
        }

        private boolean takeMark(char mark) {
            if (!text.isMark(mark)) {
                return fail(SYNTAX_ERROR);
            }
            text.advance();
            return true;
        }

        /** Keeps an error at the present token; answers false, so that callers can return it. */
        private boolean fail(int code) {
            failure = code;
            failurePlace = text.start;
            return false;
        }

        private void addStep(int step) {
            if (stepTotal < MAX_BYTES) {
                steps[stepTotal] = step;
                stepTotal++;
            }
        }
    }
}
