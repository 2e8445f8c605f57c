import java.util.ArrayDeque;
import java.util.ArrayList;
import java.util.Comparator;
import java.util.Deque;
import java.util.HashSet;
import java.util.List;
import java.util.Set;

/**
 * The document once more, written with collections and without care for speed, so that ModelTest
 * can compare long random runs. It answers only calls that the document does not let throw.
 */
final class Model {
    static final class Task {
        int index;
        int state;
        int duration;
        int priority;
        int home;
        Set<Integer> predecessors = new HashSet<>();
        int fencesBefore;
        int ranOn = -1;
        int doneAt = -1;

        boolean isFinished() {
            return state == HardwareTaskQueue.DONE || state == HardwareTaskQueue.CANCELLED;
        }

        Task copy() {
            Task copy = new Task();
            copy.index = index;
            copy.state = state;
            copy.duration = duration;
            copy.priority = priority;
            copy.home = home;
            copy.predecessors = new HashSet<>(predecessors);
            copy.fencesBefore = fencesBefore;
            copy.ranOn = ranOn;
            copy.doneAt = doneAt;
            return copy;
        }
    }

    static final class Core {
        List<Integer> queue = new ArrayList<>();
        int running = -1;
        int remaining;
        int busy;
        int steals;
        boolean paused;

        Core copy() {
            Core copy = new Core();
            copy.queue = new ArrayList<>(queue);
            copy.running = running;
            copy.remaining = remaining;
            copy.busy = busy;
            copy.steals = steals;
            copy.paused = paused;
            return copy;
        }
    }

    List<Task> tasks = new ArrayList<>();
    List<Core> cores = new ArrayList<>();
    List<Integer> fences = new ArrayList<>();
    List<String> expression = List.of("duration");
    int capacity;
    int stealCost;
    int clock;

    Model copy() {
        Model copy = new Model();
        tasks.forEach(task -> copy.tasks.add(task.copy()));
        cores.forEach(core -> copy.cores.add(core.copy()));
        copy.fences = new ArrayList<>(fences);
        copy.expression = expression;
        copy.capacity = capacity;
        copy.stealCost = stealCost;
        copy.clock = clock;
        return copy;
    }

    boolean isOpen(int fence) {
        return tasks.subList(0, fences.get(fence)).stream().allMatch(Task::isFinished);
    }

    int counter(int index) {
        Task task = tasks.get(index);
        int count = 0;
        for (int predecessor : task.predecessors) {
            count += tasks.get(predecessor).isFinished() ? 0 : 1;
        }
        for (int f = 0; f < task.fencesBefore; f++) {
            count += isOpen(f) ? 0 : 1;
        }
        return count;
    }

    int finished() {
        return (int) tasks.stream().filter(Task::isFinished).count();
    }

    Task add(int duration, int priority, int home) {
        Task task = new Task();
        task.index = tasks.size();
        task.duration = duration;
        task.priority = priority;
        task.home = home;
        task.fencesBefore = fences.size();
        tasks.add(task);
        return task;
    }

    int cycle() {
        int done = 0;
        for (Core core : cores) {
            if (core.running >= 0 && --core.remaining == 0) {
                Task task = tasks.get(core.running);
                task.state = HardwareTaskQueue.DONE;
                task.doneAt = clock;
                core.running = -1;
                done++;
            }
        }
        List<Task> ready = new ArrayList<>();
        for (Task task : tasks) {
            if (task.state == HardwareTaskQueue.WAITING && counter(task.index) == 0) {
                task.state = HardwareTaskQueue.READY;
            }
            if (task.state == HardwareTaskQueue.READY) {
                ready.add(task);
            }
        }
        ready.sort(Comparator.comparingInt((Task task) -> -task.priority)
                .thenComparingInt(task -> task.index));
        ready.forEach(this::enqueue);
        for (int c = 0; c < cores.size(); c++) {
            Core core = cores.get(c);
            if (!core.paused && core.running < 0) {
                take(c, core);
            }
            core.busy += core.running >= 0 ? 1 : 0;
        }
        clock++;
        return done;
    }

    private void enqueue(Task task) {
        Core target = cores.get(task.home);
        if (target.queue.size() == capacity) {
            target = cores.stream().min(Comparator.comparingInt(core -> core.queue.size())).get();
        }
        if (target.queue.size() < capacity) {
            target.queue.add(task.index);
            task.state = HardwareTaskQueue.QUEUED;
        }
    }

    private void take(int index, Core core) {
        int cost = 0;
        int taken;
        if (!core.queue.isEmpty()) {
            taken = core.queue.remove(0);
        } else {
            int longest = cores.stream().mapToInt(other -> other.queue.size()).max().getAsInt();
            if (longest == 0) {
                return;
            }
            Core victim = cores.stream().filter(other -> other.queue.size() == longest)
                    .findFirst().get();
            taken = victim.queue.remove(longest - 1);
            cost = stealCost;
            core.steals++;
        }
        Task task = tasks.get(taken);
        task.state = HardwareTaskQueue.RUNNING;
        task.ranOn = index;
        core.running = taken;
        Deque<String> tokens = new ArrayDeque<>(expression);
        long length = sum(tokens, task, index, core.queue.size());
        core.remaining = (int) Math.max(1, Math.min(999, length)) + cost;
    }

    private static long limited(long value) {
        return Math.max(-1000000, Math.min(1000000, value));
    }

    private static long sum(Deque<String> tokens, Task task, int core, int load) {
        long value = term(tokens, task, core, load);
        while ("+".equals(tokens.peek()) || "-".equals(tokens.peek())) {
            boolean plus = tokens.pop().equals("+");
            long other = term(tokens, task, core, load);
            value = limited(plus ? value + other : value - other);
        }
        return value;
    }

    private static long term(Deque<String> tokens, Task task, int core, int load) {
        long value = factor(tokens, task, core, load);
        while ("*".equals(tokens.peek()) || "/".equals(tokens.peek())) {
            boolean times = tokens.pop().equals("*");
            long other = factor(tokens, task, core, load);
            value = limited(times ? value * other : other == 0 ? 0 : value / other);
        }
        return value;
    }

    private static long factor(Deque<String> tokens, Task task, int core, int load) {
        String token = tokens.pop();
        switch (token) {
            case "(":
                long value = sum(tokens, task, core, load);
                tokens.pop();
                return value;
            case "duration":
                return task.duration;
            case "priority":
                return task.priority;
            case "core":
                return core;
            case "load":
                return load;
            default:
                return Long.parseLong(token);
        }
    }

    int timeLeft(int limit) {
        Model copy = copy();
        for (int n = 0; n <= limit; n++) {
            if (copy.finished() == copy.tasks.size()) {
                return n;
            }
            copy.cycle();
        }
        return -1;
    }

    int timeOn(int number, int limit) {
        Model copy = copy();
        copy.cores.clear();
        for (int c = 0; c < number; c++) {
            copy.cores.add(new Core());
        }
        for (Task task : copy.tasks) {
            if (task.state != HardwareTaskQueue.CANCELLED) {
                task.state = HardwareTaskQueue.WAITING;
            }
            if (task.home >= number) {
                task.home %= number;
            }
        }
        return copy.timeLeft(limit);
    }

    int criticalPath() {
        int best = 0;
        int[] from = new int[tasks.size()];
        for (int t = tasks.size() - 1; t >= 0; t--) {
            Task task = tasks.get(t);
            if (task.isFinished()) {
                continue;
            }
            for (Task next : tasks.subList(t + 1, tasks.size())) {
                boolean linked = next.predecessors.contains(t)
                        || next.fencesBefore > task.fencesBefore;
                if (!next.isFinished() && linked) {
                    from[t] = Math.max(from[t], from[next.index]);
                }
            }
            from[t] += task.duration;
            best = Math.max(best, from[t]);
        }
        return best;
    }

    long checksum() {
        List<Integer> numbers = new ArrayList<>(List.of(clock, finished()));
        for (Task task : tasks) {
            numbers.addAll(List.of(task.state, task.priority, counter(task.index)));
        }
        for (Core core : cores) {
            numbers.addAll(core.queue);
            numbers.addAll(List.of(core.running, core.remaining, core.busy, core.steals));
        }
        long sum = 0;
        for (int number : numbers) {
            sum = 31 * sum + number;
        }
        return sum;
    }
}
