/** Queues in states that refused calls are tried in. */
final class Makers {
    /** Tasks of busy(), one in each state. */
    static final int DONE = 0;
    static final int RUNNING = 1;
    static final int QUEUED = 3;
    static final int READY = 4;
    static final int WAITING = 5;
    static final int CANCELLED = 6;

    private Makers() {
    }

    /**
     * Two cores of which core 1 is paused, seven tasks in all six states, an open and a closed
     * fence, four changes, an error offset of 10 and 40 bytes in the input buffer.
     */
    static HardwareTaskQueue busy() {
        HardwareTaskQueue q = new HardwareTaskQueue();
        Check.load(q, "queue 2 1 3;fence;task 2 9 core 0;task 20 8 core 1;task 9 7;task 9 6;"
                + "task 9 5;fence;task 9 4;task 9 3 after 0 2;length duration+priority/9;");
        q.run(4);
        q.cancel(CANCELLED);
        q.pause(1, true);
        Check.load(q, "queue 1 1 21;");
        Check.feed(q, "queue 3 1 0;task 3 3;fence;task 4 4;");
        return q;
    }

    /** Four cores, 32 tasks, eight fences and more changes than can be undone. */
    static HardwareTaskQueue full() {
        HardwareTaskQueue q = new HardwareTaskQueue();
        Check.load(q, "queue 4 8 20;" + ("task 2 1;".repeat(4) + "fence;").repeat(8));
        for (int i = 0; i < 10; i++) {
            q.run(1);
        }
        return q;
    }

    /** Four paused cores whose queues hold 32 tasks, all that there is place for. */
    static HardwareTaskQueue crowded() {
        HardwareTaskQueue q = of("queue 4 8 20;" + "task 9 1;".repeat(32));
        for (int core = 0; core < 4; core++) {
            q.pause(core, true);
        }
        q.run(1);
        return q;
    }

    /** A new queue with this setup text. */
    static HardwareTaskQueue of(String text) {
        HardwareTaskQueue q = new HardwareTaskQueue();
        Check.load(q, text);
        return q;
    }
}
