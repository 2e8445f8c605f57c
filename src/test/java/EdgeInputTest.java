/** The edges that promises 1 to 4 name: a new object, append, load and errorOffset. */
public final class EdgeInputTest {
    private static final int SYNTAX = HardwareTaskQueue.SYNTAX_ERROR;
    private static final int RANGE = HardwareTaskQueue.OUT_OF_RANGE;
    private static final int MANY = HardwareTaskQueue.TOO_MANY;
    private static final int DEEP = HardwareTaskQueue.TOO_DEEP;
    private static final int SPACES = 0x20202020;
    private static final String Q = "queue 1 1 1;";

    public static void main(String[] args) {
        newObject();
        newBuffer();
        eachByte();
        signOfWords();
        newLength();
        fullBuffer();
        fullBufferIsUnchanged();
        firstBytes();
        replacesAll();
        emptyAfterwards();
        errorLeavesData();
        emptyText();
        answersOfLoad();
        wrongLengths();
        errorOffsets();
        errorOffsetAfterThrow();
        Check.end();
    }

    private static void newObject() {
        Check.about("Creates an object without cores and tasks, ...");
        HardwareTaskQueue q = new HardwareTaskQueue();
        Check.equal("coreCount", q.coreCount(), 0);
        Check.equal("taskCount", q.taskCount(), 0);
        Check.equal("fenceCount", q.fenceCount(), 0);
        Check.equal("clock", q.clock(), 0);
        Check.equal("finished", q.finished(), 0);
        Check.equal("criticalPath", q.criticalPath(), 0);
        Check.equal("checksum", q.checksum(), 0);
        Check.index("state(0)", () -> q.state(0));
        Check.index("isOpen(0)", () -> q.isOpen(0));
        Check.index("running(0)", () -> q.running(0));
    }

    private static void newBuffer() {
        Check.about("... with an empty input buffer.");
        Twins.argument("load(1)", HardwareTaskQueue::new, q -> q.load(1));
        Twins.argument("load(-1)", HardwareTaskQueue::new, q -> q.load(-1));
        Check.equal("load(0)", new HardwareTaskQueue().load(0), SYNTAX);
        Check.equal("append", new HardwareTaskQueue().append(0, 0, 0, 0, 0), 20);
    }

    /** All bytes but one are spaces, so that the error is where the one byte is. */
    private static void eachByte() {
        Check.about("Appends 20 bytes to the input buffer: the 4 bytes of each argument, the most"
                + " significant byte first.");
        for (int place = 0; place < 20; place++) {
            int[] words = {SPACES, SPACES, SPACES, SPACES, SPACES};
            int shift = 24 - 8 * (place % 4);
            words[place / 4] += (0xff - 0x20) << shift;
            HardwareTaskQueue q = new HardwareTaskQueue();
            q.append(words[0], words[1], words[2], words[3], words[4]);
            Check.equal("load(place)", q.load(place), SYNTAX);
            Check.equal("spaces before place " + place, q.errorOffset(), place);
            q.append(words[0], words[1], words[2], words[3], words[4]);
            Check.equal("load(20)", q.load(20), SYNTAX);
            Check.equal("the byte at place " + place, q.errorOffset(), place);
        }
    }

    private static void signOfWords() {
        Check.about("... the most significant byte first.");
        HardwareTaskQueue q = new HardwareTaskQueue();
        q.append(0x71756575, 0x65203320, 0x3820303b, 0x66656e63, 0x653b2020);
        Check.equal("'queue 3 8 0;fence;'", q.load(18), 0);
        Check.equal("coreCount", q.coreCount(), 3);
        Check.equal("fenceCount", q.fenceCount(), 1);
        for (int word : new int[] {0, -1, Integer.MIN_VALUE, Integer.MAX_VALUE}) {
            Check.equal("append", q.append(word, word, word, word, word), 20);
            Check.equal("load", q.load(20), SYNTAX);
            Check.equal("errorOffset", q.errorOffset(), 0);
        }
    }

    private static void newLength() {
        Check.about("Returns the new length of the buffer; ...");
        HardwareTaskQueue q = new HardwareTaskQueue();
        for (int length = 20; length <= 900; length += 20) {
            Check.equal("append", q.append(SPACES, SPACES, SPACES, SPACES, SPACES), length);
        }
        q.load(0);
        Check.equal("append to the emptied buffer", q.append(0, 0, 0, 0, 0), 20);
    }

    /** A queue with this number of appends in its input buffer, the first of which is a setup. */
    private static HardwareTaskQueue filled(int appends) {
        HardwareTaskQueue q = Makers.of("queue 2 8 0;task 3 3;");
        Check.feed(q, "queue 3 8 0;fence;" + " ".repeat(20 * appends - 18));
        return q;
    }

    private static void fullBuffer() {
        Check.about("... -1 if it would exceed 900 bytes, ...");
        Check.equal("880 bytes and 20 more", filled(44).append(0, 0, 0, 0, 0), 900);
        Check.equal("900 bytes and 20 more", filled(45).append(0, 0, 0, 0, 0), -1);
        HardwareTaskQueue q = filled(45);
        Check.equal("again", q.append(0, 0, 0, 0, 0), -1);
        Check.equal("again", q.append(-1, -1, -1, -1, -1), -1);
        q.load(900);
        Check.equal("after a load", q.append(0, 0, 0, 0, 0), 20);
    }

    private static void fullBufferIsUnchanged() {
        Check.about("... and the buffer is unchanged then.");
        Twins.answered("append to 900 bytes", -1, () -> filled(45),
                q -> q.append(0x24242424, 0x24242424, 0x24242424, 0x24242424, 0x24242424));
        HardwareTaskQueue q = filled(45);
        q.append(0x24242424, 0x24242424, 0x24242424, 0x24242424, 0x24242424);
        Check.argument("load(901)", () -> q.load(901));
        Check.equal("load(900)", q.load(900), 0);
        Check.equal("errorOffset", q.errorOffset(), -1);
    }

    private static void firstBytes() {
        Check.about("Reads the first bytes of the input buffer as a setup text ... length: the number"
                + " of bytes to read");
        int[][] due = {{11, SYNTAX, 11}, {12, 0, -1}, {13, SYNTAX, 12}, {20, SYNTAX, 12}};
        for (int[] row : due) {
            HardwareTaskQueue q = new HardwareTaskQueue();
            Check.feed(q, Q + "$");
            Check.equal("load(" + row[0] + ")", q.load(row[0]), row[1]);
            Check.equal("errorOffset", q.errorOffset(), row[2]);
        }
        // A number and a word end with the last byte that is read.
        HardwareTaskQueue q = new HardwareTaskQueue();
        Check.feed(q, "queue 1 1 199;");
        Check.equal("load(11)", q.load(11), SYNTAX);
        Check.equal("errorOffset", q.errorOffset(), 11);
        Check.feed(q, Q + "fenceless;");
        Check.equal("load(17)", q.load(17), SYNTAX);
        Check.equal("errorOffset", q.errorOffset(), 17);
    }

    private static void replacesAll() {
        Check.about("... replaces all data by it. The clock is 0 then, all tasks are WAITING, and no"
                + " core is paused.");
        HardwareTaskQueue q = Makers.full();
        q.pause(0, true);
        q.pause(3, true);
        Check.equal("load", Check.load(q, "queue 4 2 3;fence;task 4 5;task 6 7 after 0;"), 2);
        HardwareTaskQueue fresh = Makers.of("queue 4 2 3;fence;task 4 5;task 6 7 after 0;");
        Check.equal("as with a new object", Twins.sight(q), Twins.sight(fresh));
        Check.equal("clock", q.clock(), 0);
        Check.equal("fenceCount", q.fenceCount(), 1);
        Expect.states(q, HardwareTaskQueue.WAITING, HardwareTaskQueue.WAITING);
        for (int c = 0; c < 4; c++) {
            Check.equal("isPaused", q.isPaused(c), false);
            Expect.core(q, c, -1, 0, 0, 0);
            Expect.queue(q, c);
        }
        Check.index("state(2)", () -> q.state(2));
        Check.index("isOpen(1)", () -> q.isOpen(1));
        Check.equal("a smaller setup", Check.load(q, "queue 1 1 0;"), 0);
        Check.equal("coreCount", q.coreCount(), 1);
        Check.equal("taskCount", q.taskCount(), 0);
        Check.equal("fenceCount", q.fenceCount(), 0);
        Check.index("busy(1)", () -> q.busy(1));
    }

    private static void emptyAfterwards() {
        Check.about("The input buffer is empty afterwards, also if the text has an error.");
        for (String text : new String[] {Q, "x", Q + "task 0 0;", Q + "fence;".repeat(9),
            Q + "length (((((1)))));"}) {
            for (int length : new int[] {0, text.length() - 1, text.length()}) {
                HardwareTaskQueue q = new HardwareTaskQueue();
                Check.feed(q, text + " ".repeat(60));
                q.load(length);
                Check.argument("load(1) after '" + text + "'", () -> q.load(1));
                Check.equal("append after '" + text + "'", q.append(0, 0, 0, 0, 0), 20);
            }
        }
        HardwareTaskQueue q = filled(45);
        Check.equal("load(12) of 900", q.load(12), 0);
        Check.equal("append", q.append(0, 0, 0, 0, 0), 20);
    }

    private static void errorLeavesData() {
        Check.about("An error leaves all other data unchanged.");
        Twins.Maker[] makers = {HardwareTaskQueue::new, Makers::busy, Makers::full};
        for (Twins.Maker maker : makers) {
            Twins.loadError(maker, "", SYNTAX, 0);
            Twins.loadError(maker, "queue 3 2 1", SYNTAX, 11);
            Twins.loadError(maker, "queue 3 2 21;", RANGE, 10);
            Twins.loadError(maker, "queue 3 2 1;task 9 9;fence;length 5;oops", SYNTAX, 36);
            Twins.loadError(maker, "queue 3 2 1;task 9 9;fence;length 5;task 1 1 after 1;", RANGE, 51);
            Twins.loadError(maker, Q + "length 5;" + "task 9 9;".repeat(33), MANY, 309);
            Twins.loadError(maker, Q + "length 5;" + "fence;".repeat(9), MANY, 69);
            Twins.loadError(maker, Q + "task 9 9;fence;length (((((", DEEP, 38);
        }
    }

    private static void emptyText() {
        Check.about("An empty text has a SYNTAX_ERROR.");
        Twins.loadError(HardwareTaskQueue::new, "", SYNTAX, 0);
        HardwareTaskQueue q = new HardwareTaskQueue();
        Check.feed(q, Q);
        Check.equal("load(0) of a buffer that is not empty", q.load(0), SYNTAX);
        Check.equal("errorOffset", q.errorOffset(), 0);
        Check.equal("coreCount", q.coreCount(), 0);
        Check.argument("the buffer is empty", () -> q.load(1));
        Check.feed(q, " ");
        Check.equal("one space", q.load(1), SYNTAX);
        Check.equal("errorOffset", q.errorOffset(), 1);
    }

    private static void answersOfLoad() {
        Check.about("Returns the number of tasks; or the error code of the first error.");
        for (int tasks : new int[] {0, 1, 2, 31, 32}) {
            HardwareTaskQueue q = new HardwareTaskQueue();
            Check.equal("load", Check.load(q, Q + "task 1 1;".repeat(tasks)), tasks);
        }
        Check.equal("SYNTAX_ERROR", Check.load(new HardwareTaskQueue(), Q + "x"), -2);
        Check.equal("OUT_OF_RANGE", Check.load(new HardwareTaskQueue(), Q + "task 0 0;"), -3);
        Check.equal("TOO_MANY", Check.load(new HardwareTaskQueue(), Q + "fence;".repeat(9)), -4);
        Check.equal("TOO_DEEP", Check.load(new HardwareTaskQueue(), Q + "length((((("), -5);
    }

    private static void wrongLengths() {
        Check.about("Throws IllegalArgumentException if length is negative or greater than the length"
                + " of the buffer; the buffer is unchanged then");
        int[] always = {-1, Integer.MIN_VALUE, 901, Integer.MAX_VALUE};
        for (int length : always) {
            Twins.argument("load(" + length + ")", HardwareTaskQueue::new, q -> q.load(length));
            Twins.argument("load(" + length + ")", Makers::busy, q -> q.load(length));
            Twins.argument("load(" + length + ")", () -> filled(45), q -> q.load(length));
        }
        Twins.argument("load(1) of none", HardwareTaskQueue::new, q -> q.load(1));
        Twins.argument("load(41) of 40", Makers::busy, q -> q.load(41));
        Twins.argument("load(881) of 880", () -> filled(44), q -> q.load(881));
        Check.equal("load(40) of 40", Makers.busy().load(40), 2);
        Check.equal("load(39) of 40", Makers.busy().load(39), 2);
        Check.equal("load(880) of 880", filled(44).load(880), 0);
        Check.equal("load(900) of 900", filled(45).load(900), 0);
        Check.equal("load(899) of 900", filled(45).load(899), 0);
    }

    private static void errorOffsets() {
        Check.about("Returns the offset of the error found by the latest call of load ...; -1 if it"
                + " found none or if there was no such call.");
        HardwareTaskQueue q = new HardwareTaskQueue();
        Check.equal("no call", q.errorOffset(), -1);
        Check.load(q, Q);
        Check.equal("no error", q.errorOffset(), -1);
        Check.load(q, "x");
        Check.equal("the smallest offset", q.errorOffset(), 0);
        Check.load(q, " ".repeat(900));
        Check.equal("the greatest offset", q.errorOffset(), 900);
        Check.load(q, Q + "x");
        Check.equal("the latest error", q.errorOffset(), 12);
        q.run(1);
        q.pause(0, true);
        q.submit(1, 1, 0);
        Check.equal("other changes leave it", q.errorOffset(), 12);
        q.undo();
        Check.equal("undo leaves it", q.errorOffset(), 12);
        Check.load(q, Q);
        Check.equal("no error any more", q.errorOffset(), -1);
        q.undo();
        Check.equal("undo of load leaves it", q.errorOffset(), -1);
    }

    private static void errorOffsetAfterThrow() {
        Check.about("... the latest call of load that did not throw; ...");
        HardwareTaskQueue q = new HardwareTaskQueue();
        Check.argument("load(1)", () -> q.load(1));
        Check.equal("no such call", q.errorOffset(), -1);
        Check.load(q, Q + "x");
        Check.argument("load(1)", () -> q.load(1));
        Check.argument("load(-1)", () -> q.load(-1));
        Check.equal("the error before", q.errorOffset(), 12);
        Check.load(q, Q);
        Check.argument("load(1)", () -> q.load(1));
        Check.equal("none before", q.errorOffset(), -1);
    }
}
