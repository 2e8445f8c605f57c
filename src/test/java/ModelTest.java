import java.util.ArrayDeque;
import java.util.Deque;

/** Random runs of calls, each answer compared with the one of Model; the same runs every time. */
public final class ModelTest {
    private static final int RUNS = 1500;
    private static final int CALLS = 130;

    private final HardwareTaskQueue queue = new HardwareTaskQueue();
    private final Deque<Model> past = new ArrayDeque<>();
    private Model model = new Model();
    private int errorOffset = -1;
    private final String name;
    private long seed;

    private ModelTest(int run) {
        name = "run " + run + " ";
        seed = 1000003L * run + 12345;
    }

    public static void main(String[] args) {
        for (int run = 0; run < RUNS && !Check.anyWrong(); run++) {
            ModelTest test = new ModelTest(run);
            for (int call = 0; call < CALLS && !Check.anyWrong(); call++) {
                test.call();
                test.compare();
            }
        }
        Check.end();
    }

    private int random(int bound) {
        seed = seed * 6364136223846793005L + 1442695040888963407L;
        return (int) ((seed >>> 33) % bound);
    }

    private boolean chance(int percent) {
        return random(100) < percent;
    }

    /** Mostly within the range, at times beside it or far from it. */
    private int near(int low, int high) {
        if (chance(92) && high >= low) {
            return low + random(high - low + 1);
        }
        int[] edges = {low - 1, high + 1, -1, Integer.MAX_VALUE, Integer.MIN_VALUE, 32, 33, 64};
        return edges[random(edges.length)];
    }

    private void call() {
        int kind = random(100);
        if (kind < 6 || model.cores.isEmpty() && kind < 60) {
            load();
        } else if (kind < 30) {
            run();
        } else if (kind < 42) {
            submit();
        } else if (kind < 52) {
            depend();
        } else if (kind < 60) {
            cancel();
        } else if (kind < 70) {
            setPriority();
        } else if (kind < 78) {
            pause();
        } else if (kind < 88) {
            undo();
        } else {
            predict();
        }
    }

    private void change() {
        past.push(model.copy());
        if (past.size() > 8) {
            past.removeLast();
        }
    }

    private void load() {
        String text = text();
        ModelSetup setup = new ModelSetup(text);
        Check.feed(queue, text);
        int answer = queue.load(text.length());
        Check.equal(name + "load of '" + text + "'", answer,
                setup.error == 0 ? setup.model.tasks.size() : setup.error);
        errorOffset = setup.errorOffset;
        if (setup.error == 0) {
            change();
            model = setup.model;
        }
    }

    private void run() {
        int cycles = chance(70) ? near(1, 6) : near(1, 200);
        String what = name + "run(" + cycles + ")";
        if (cycles < 1 || cycles > 200) {
            Check.argument(what, () -> queue.run(cycles));
        } else if (model.cores.isEmpty()) {
            Check.state(what, () -> queue.run(cycles));
        } else {
            change();
            int done = 0;
            for (int i = 0; i < cycles; i++) {
                done += model.cycle();
            }
            Check.equal(what, queue.run(cycles), done);
        }
    }

    private void submit() {
        int duration = near(1, chance(50) ? 9 : 99);
        int priority = near(0, 9);
        int core = near(0, model.cores.size() - 1);
        String what = name + "submit(" + duration + ", " + priority + ", " + core + ")";
        if (core < 0 || core >= model.cores.size()) {
            Check.index(what, () -> queue.submit(duration, priority, core));
        } else if (duration < 1 || duration > 99 || priority < 0 || priority > 9) {
            Check.argument(what, () -> queue.submit(duration, priority, core));
        } else if (model.tasks.size() == 32) {
            Check.state(what, () -> queue.submit(duration, priority, core));
        } else {
            change();
            Check.equal(what, queue.submit(duration, priority, core), model.tasks.size());
            model.add(duration, priority, core);
        }
    }

    private void depend() {
        int task = near(0, model.tasks.size() - 1);
        int on = near(0, chance(80) ? task - 1 : task + 1);
        String what = name + "depend(" + task + ", " + on + ")";
        if (task < 0 || task >= model.tasks.size() || on < 0) {
            Check.index(what, () -> queue.depend(task, on));
        } else if (on >= task || model.tasks.get(task).predecessors.contains(on)) {
            Check.argument(what, () -> queue.depend(task, on));
        } else if (model.tasks.get(task).state != HardwareTaskQueue.WAITING) {
            Check.state(what, () -> queue.depend(task, on));
        } else {
            change();
            model.tasks.get(task).predecessors.add(on);
            Check.equal(what, queue.depend(task, on), model.counter(task));
        }
    }

    private void cancel() {
        int task = near(0, model.tasks.size() - 1);
        String what = name + "cancel(" + task + ")";
        if (task < 0 || task >= model.tasks.size()) {
            Check.index(what, () -> queue.cancel(task));
            return;
        }
        int state = model.tasks.get(task).state;
        if (state >= HardwareTaskQueue.RUNNING) {
            Check.state(what, () -> queue.cancel(task));
            return;
        }
        change();
        model.tasks.get(task).state = HardwareTaskQueue.CANCELLED;
        model.cores.forEach(core -> core.queue.remove(Integer.valueOf(task)));
        Check.equal(what, queue.cancel(task), state);
    }

    private void setPriority() {
        int task = near(0, model.tasks.size() - 1);
        int priority = near(0, 9);
        String what = name + "setPriority(" + task + ", " + priority + ")";
        if (task < 0 || task >= model.tasks.size()) {
            Check.index(what, () -> queue.setPriority(task, priority));
        } else if (priority < 0 || priority > 9) {
            Check.argument(what, () -> queue.setPriority(task, priority));
        } else {
            change();
            Check.equal(what, queue.setPriority(task, priority), model.tasks.get(task).priority);
            model.tasks.get(task).priority = priority;
        }
    }

    private void pause() {
        int core = near(0, model.cores.size() - 1);
        boolean paused = chance(40);
        String what = name + "pause(" + core + ", " + paused + ")";
        if (core < 0 || core >= model.cores.size()) {
            Check.index(what, () -> queue.pause(core, paused));
        } else {
            change();
            Check.equal(what, queue.pause(core, paused), model.cores.get(core).paused);
            model.cores.get(core).paused = paused;
        }
    }

    private void undo() {
        if (past.isEmpty()) {
            Check.equal(name + "undo()", queue.undo(), -1);
        } else {
            model = past.pop();
            Check.equal(name + "undo()", queue.undo(), past.size());
        }
    }

    private void predict() {
        int limit = near(0, chance(50) ? 500 : 60);
        int cores = near(1, 4);
        boolean inRange = limit >= 0 && limit <= 500;
        String what = name + "finishTime(" + limit + ")";
        if (inRange) {
            Check.equal(what, queue.finishTime(limit), model.timeLeft(limit));
        } else {
            Check.argument(what, () -> queue.finishTime(limit));
        }
        what = name + "timeOn(" + cores + ", " + limit + ")";
        if (!inRange || cores < 1 || cores > 4) {
            Check.argument(what, () -> queue.timeOn(cores, limit));
        } else if (model.cores.isEmpty()) {
            Check.state(what, () -> queue.timeOn(cores, limit));
        } else {
            Check.equal(what, queue.timeOn(cores, limit), model.timeOn(cores, limit));
        }
    }

    private void compare() {
        Check.equal(name + "errorOffset", queue.errorOffset(), errorOffset);
        Check.equal(name + "clock", queue.clock(), model.clock);
        Check.equal(name + "finished", queue.finished(), model.finished());
        Check.equal(name + "criticalPath", queue.criticalPath(), model.criticalPath());
        Check.equal(name + "checksum", queue.checksum(), model.checksum());
        Check.equal(name + "taskCount", queue.taskCount(), model.tasks.size());
        Check.equal(name + "coreCount", queue.coreCount(), model.cores.size());
        Check.equal(name + "fenceCount", queue.fenceCount(), model.fences.size());
        for (int f = 0; f < model.fences.size(); f++) {
            Check.equal(name + "isOpen " + f, queue.isOpen(f), model.isOpen(f));
        }
        for (int t = 0; t < model.tasks.size(); t++) {
            Model.Task task = model.tasks.get(t);
            Check.equal(name + "state " + t, queue.state(t), task.state);
            Check.equal(name + "counter " + t, queue.counter(t), model.counter(t));
            Check.equal(name + "priority " + t, queue.priority(t), task.priority);
            Check.equal(name + "coreOf " + t, queue.coreOf(t), task.ranOn);
            Check.equal(name + "doneAt " + t, queue.doneAt(t), task.doneAt);
        }
        for (int c = 0; c < model.cores.size(); c++) {
            compare(c, model.cores.get(c));
        }
    }

    private void compare(int c, Model.Core core) {
        Check.equal(name + "queueLength " + c, queue.queueLength(c), core.queue.size());
        for (int k = 0; k < core.queue.size(); k++) {
            Check.equal(name + "queued " + c, queue.queued(c, k), core.queue.get(k));
        }
        Check.equal(name + "running " + c, queue.running(c), core.running);
        Check.equal(name + "remaining " + c, queue.remaining(c), core.remaining);
        Check.equal(name + "busy " + c, queue.busy(c), core.busy);
        Check.equal(name + "steals " + c, queue.steals(c), core.steals);
        Check.equal(name + "isPaused " + c, queue.isPaused(c), core.paused);
    }

    /** A text of at most 900 bytes, half of the time with a fault somewhere. */
    private String text() {
        StringBuilder text = new StringBuilder();
        int cores = 1 + random(4);
        text.append("queue ").append(cores).append(' ').append(1 + random(chance(50) ? 8 : 2))
                .append(' ').append(random(21)).append(';');
        int tasks = chance(10) ? 30 + random(4) : random(20);
        for (int t = 0; t < tasks && text.length() < 860; t++) {
            if (chance(12)) {
                text.append(chance(50) ? "fence;" : " fence ;");
            }
            if (chance(6)) {
                text.append("length ");
                expression(text, 0);
                text.append(';');
            }
            task(text, t, cores);
        }
        if (chance(8)) {
            text.append("fence;".repeat(random(9)));
        }
        if (chance(50)) {
            spoil(text);
        }
        if (text.length() > 900) {
            text.setLength(900);
        }
        return text.toString();
    }

    private void task(StringBuilder text, int t, int cores) {
        text.append(chance(50) ? "task " : "  task").append(1 + random(chance(60) ? 12 : 99))
                .append(' ').append(random(10));
        if (chance(30)) {
            text.append(" core ").append(random(cores));
        }
        if (chance(35) && t > 0) {
            text.append(" after ").append(random(t));
            for (int i = 0; i < 3 && chance(30); i++) {
                text.append(' ').append(chance(90) ? (t + i) % Math.max(1, t - 1) : t);
            }
        }
        text.append(';');
    }

    private void expression(StringBuilder text, int depth) {
        int factors = 1 + random(4);
        for (int f = 0; f < factors; f++) {
            if (f > 0) {
                text.append("+-*/".charAt(random(4)));
            }
            int kind = random(8);
            if (kind < 2 && depth < 5) {
                text.append('(');
                expression(text, depth + (chance(60) ? 1 : 2));
                text.append(')');
            } else if (kind < 4) {
                text.append(random(chance(50) ? 10 : 9999));
            } else {
                text.append(new String[] {"duration", "priority", "core", "load"}[kind - 4]);
            }
        }
    }

    private void spoil(StringBuilder text) {
        String[] bits = {";", " ", "task", "fence", "length 1;", "core", "after", "0", "99999", "(",
            "((((((", ")", "+", "x", "A", "\t", "\u00ff", "\u0000", "queue", "after 0", "1", ","};
        int place = random(text.length() + 1);
        int kind = random(4);
        if (kind == 0) {
            text.setLength(place);
        } else if (kind == 1 && place < text.length()) {
            text.deleteCharAt(place);
        } else {
            text.insert(place, bits[random(bits.length)]);
        }
        if (chance(20)) {
            text.append(bits[random(bits.length)]);
        }
    }
}
