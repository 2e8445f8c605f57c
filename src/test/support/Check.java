import java.nio.charset.StandardCharsets;
import java.util.Arrays;

/** What the tests share: counting wrong answers, and feeding texts to a queue. */
final class Check {
    private static int wrong = 0;
    private static int made = 0;
    private static String sentence = "";

    private Check() {
    }

    interface Call {
        void make();
    }

    /** The document's sentence that the following answers are due by; reports name it. */
    static void about(String words) {
        sentence = words;
    }

    static void equal(String what, long got, long due) {
        made++;
        if (got != due) {
            report(what + " answered " + got + ", due is " + due);
        }
    }

    static void equal(String what, boolean got, boolean due) {
        equal(what, got ? 1 : 0, due ? 1 : 0);
    }

    static void equal(String what, String got, String due) {
        made++;
        if (!got.equals(due)) {
            int from = Math.max(0, Arrays.mismatch(got.getBytes(), due.getBytes()) - 20);
            report(what + " is not as due: .." + part(got, from) + ", due is .." + part(due, from));
        }
    }

    private static String part(String text, int from) {
        return text.substring(Math.min(from, text.length()), Math.min(from + 60, text.length()));
    }

    /** The exception's own class is compared, so that one of the machine's is not taken for it. */
    static void throwing(String what, Class<? extends RuntimeException> due, Call call) {
        made++;
        try {
            call.make();
            report(what + " threw nothing, due is " + due.getSimpleName());
        } catch (RuntimeException thrown) {
            if (thrown.getClass() != due) {
                report(what + " threw " + thrown + ", due is " + due.getSimpleName());
            }
        }
    }

    static void index(String what, Call call) {
        throwing(what, IndexOutOfBoundsException.class, call);
    }

    static void argument(String what, Call call) {
        throwing(what, IllegalArgumentException.class, call);
    }

    static void state(String what, Call call) {
        throwing(what, IllegalStateException.class, call);
    }

    private static void report(String line) {
        wrong++;
        if (wrong <= 50) {
            System.out.println(sentence.isEmpty() ? line : line + "  [" + sentence + "]");
        }
    }

    static boolean anyWrong() {
        return wrong > 0;
    }

    /** Appends the text, filled up with spaces to a multiple of 20 bytes. */
    static int feed(HardwareTaskQueue queue, String text) {
        byte[] bytes = text.getBytes(StandardCharsets.ISO_8859_1);
        int size = (bytes.length + 19) / 20 * 20;
        byte[] full = Arrays.copyOf(bytes, size);
        Arrays.fill(full, bytes.length, size, (byte) ' ');
        int answer = 0;
        for (int i = 0; i < size; i += 20) {
            answer = queue.append(word(full, i), word(full, i + 4), word(full, i + 8),
                    word(full, i + 12), word(full, i + 16));
        }
        return answer;
    }

    static int load(HardwareTaskQueue queue, String text) {
        feed(queue, text);
        return queue.load(text.length());
    }

    /** A new queue with this setup, whose number of tasks has to be the one given. */
    static HardwareTaskQueue queue(int tasks, String text) {
        HardwareTaskQueue queue = new HardwareTaskQueue();
        equal("load of " + text, load(queue, text), tasks);
        return queue;
    }

    private static int word(byte[] bytes, int at) {
        return (bytes[at] & 255) << 24 | (bytes[at + 1] & 255) << 16
                | (bytes[at + 2] & 255) << 8 | bytes[at + 3] & 255;
    }

    /** To be called last: ends the program with exit code 1 if an answer was wrong. */
    static void end() {
        System.out.println(wrong == 0 ? made + " answers are as due"
                : wrong + " of " + made + " answers are not as due");
        if (wrong > 0) {
            System.exit(1);
        }
    }
}
