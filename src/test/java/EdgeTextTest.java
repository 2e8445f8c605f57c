/** The edges that "Setup text" of the document names: grammar, ranges and errors. */
public final class EdgeTextTest {
    private static final int SYNTAX = HardwareTaskQueue.SYNTAX_ERROR;
    private static final int RANGE = HardwareTaskQueue.OUT_OF_RANGE;
    private static final int MANY = HardwareTaskQueue.TOO_MANY;
    private static final int DEEP = HardwareTaskQueue.TOO_DEEP;
    /** Twelve bytes. */
    private static final String Q = "queue 2 8 1;";
    private static final String TASKS = Q + "task 1 1;".repeat(32);
    private static final String FENCES = Q + "fence;".repeat(8);

    public static void main(String[] args) {
        longestText();
        setupRule();
        statementRule();
        sumRule();
        runsOfDigits();
        runsOfLetters();
        eachLetter();
        spaces();
        noOtherSeparator();
        numbersOfQueue();
        numbersOfTask();
        homeCoreWithout();
        after();
        numberAsFactor();
        nesting();
        lengthOnce();
        smallestOffset();
        sameOffset();
        syntaxErrors();
        tooEarlyEnds();
        secondLength();
        rangeErrors();
        tooMany();
        tooDeep();
        Check.end();
    }

    private static void good(String text, int tasks) {
        HardwareTaskQueue q = Check.queue(tasks, text);
        Check.equal("errorOffset of '" + text + "'", q.errorOffset(), -1);
    }

    private static void bad(String text, int code, int offset) {
        Twins.loadError(HardwareTaskQueue::new, text, code, offset);
        Twins.loadError(Makers::busy, text, code, offset);
    }

    private static void longestText() {
        Check.about("The setup text is read from an input buffer of at most 900 bytes.");
        good(Q + " ".repeat(881) + "fence;", 0);
        good(Q + " ".repeat(882) + "fence;", 0);
        bad(Q + " ".repeat(883) + "fence", SYNTAX, 900);
        bad(Q + " ".repeat(887) + "$", SYNTAX, 899);
        bad(Q + " ".repeat(886) + "$", SYNTAX, 898);
        bad(Q + "length " + "1+".repeat(440) + "1", SYNTAX, 900);
        good(Q + "length " + "1+".repeat(439) + "1 ;", 0);
        bad("q".repeat(900), SYNTAX, 0);
        bad("queue" + "1".repeat(895), RANGE, 5);
        good("queue" + "0".repeat(889) + "1 1 1;", 0);
    }

    private static void setupRule() {
        Check.about("setup = \"queue\" number number number \";\" { statement \";\" }");
        bad("queue 1 1;", SYNTAX, 9);
        good("queue 1 1 1;", 0);
        bad("queue 1 1 1 1;", SYNTAX, 12);
        bad("queue 1 1 1", SYNTAX, 11);
        bad("queue 1 1 1;;", SYNTAX, 12);
        good("queue 1 1 1;fence;", 0);
        bad("queue 1 1 1;fence;;", SYNTAX, 18);
        bad("queue 1 1 1;fence", SYNTAX, 17);
        bad("queue 1 1 1;fence;fence", SYNTAX, 23);
        bad("queue 1 1 1 fence;", SYNTAX, 12);
        bad("1 1 1;", SYNTAX, 0);
        bad(";", SYNTAX, 0);
        bad("queue 1 1 1;queue 1 1 1;", SYNTAX, 12);
    }

    private static void statementRule() {
        Check.about("statement = \"task\" number number [ \"core\" number ] [ \"after\" number {"
                + " number } ] | \"fence\" | \"length\" sum");
        good(Q + "task 1 1;task 1 1 core 0;task 1 1 after 0;task 1 1 core 1 after 0 1 2;", 4);
        bad(Q + "task 1;", SYNTAX, 18);
        bad(Q + "task 1 1 1;", SYNTAX, 21);
        bad(Q + "task 1 1 core;", SYNTAX, 25);
        bad(Q + "task 1 1 core 0 0;", SYNTAX, 28);
        bad(Q + "task 1 1 core core 0;", SYNTAX, 26);
        bad(Q + "task 1 1 core 0 core 0;", SYNTAX, 28);
        bad(Q + "task 1 1;task 1 1 after;", SYNTAX, 35);
        bad(Q + "task 1 1;task 1 1 after 0 core 1;", SYNTAX, 38);
        bad(Q + "task 1 1;task 1 1 after 0 after 0;", SYNTAX, 38);
        bad(Q + "task 1 core 0;", SYNTAX, 19);
        bad(Q + "fence 0;", SYNTAX, 18);
        bad(Q + "fence task 1 1;", SYNTAX, 18);
        bad(Q + "core 0;", SYNTAX, 12);
        bad(Q + "after 0;", SYNTAX, 12);
        bad(Q + "load;", SYNTAX, 12);
        bad(Q + "length;", SYNTAX, 18);
        bad(Q + "length 1 1;", SYNTAX, 21);
    }

    private static void sumRule() {
        Check.about("sum = term { ( \"+\" | \"-\" ) term }; term = factor { ( \"*\" | \"/\" ) factor };"
                + " factor = number | \"duration\" | \"priority\" | \"core\" | \"load\" | \"(\" sum \")\"");
        for (String sign : new String[] {"+", "-", "*", "/"}) {
            good(Q + "length 1" + sign + "load;", 0);
            good(Q + "length 1" + sign + "1" + sign + "1;", 0);
            bad(Q + "length " + sign + "1;", SYNTAX, 19);
            bad(Q + "length 1" + sign + ";", SYNTAX, 21);
            bad(Q + "length 1" + sign + sign + "1;", SYNTAX, 21);
            bad(Q + "length (" + sign + "1);", SYNTAX, 20);
            bad(Q + "length (1" + sign + ");", SYNTAX, 22);
        }
        for (String factor : new String[] {"0", "duration", "priority", "core", "load", "(1)"}) {
            good(Q + "length " + factor + ";", 0);
            good(Q + "length (" + factor + ");", 0);
        }
        for (String word : new String[] {"task", "fence", "queue", "after", "length", "durations",
            "duratio", "x"}) {
            bad(Q + "length " + word + ";", SYNTAX, 19);
        }
        bad(Q + "length ();", SYNTAX, 20);
        bad(Q + "length (1;", SYNTAX, 21);
        bad(Q + "length 1);", SYNTAX, 20);
        bad(Q + "length (1));", SYNTAX, 22);
        bad(Q + "length (1)(1);", SYNTAX, 22);
        bad(Q + "length 2(1);", SYNTAX, 20);
        bad(Q + "length load(1);", SYNTAX, 23);
    }

    private static void runsOfDigits() {
        Check.about("A number is a run of decimal digits; ... Each run is as long as possible.");
        good("queue2 8 1;task1 1;", 1);
        bad("queue 281;", RANGE, 6);
        bad("queue 2 81;", RANGE, 8);
        bad(Q + "task 11;", SYNTAX, 19);
        good(Q + "task 11 1;", 1);
        bad(Q + "task 1 11;", RANGE, 19);
        good("queue 0002 008 00;task 0099 0009;", 1);
        bad("queue 4294967298 8 1;", RANGE, 6);
        bad("queue 18446744073709551618 8 1;", RANGE, 6);
        bad(Q + "task 4294967297 1;", RANGE, 17);
        // The signs beside the digits are no digits.
        bad("queue /2 8 1;", SYNTAX, 6);
        bad("queue 2/ 8 1;", SYNTAX, 7);
        bad("queue :2 8 1;", SYNTAX, 6);
        bad("queue 2: 8 1;", SYNTAX, 7);
        bad("queue 2.0 8 1;", SYNTAX, 7);
        bad("queue +2 8 1;", SYNTAX, 6);
        bad("queue 2 8 -1;", SYNTAX, 10);
        for (int digit = 0; digit <= 9; digit++) {
            good(Q + "task 1 " + digit + ";", 1);
        }
    }

    private static void runsOfLetters() {
        Check.about("... a word is a run of the letters a to z. Each run is as long as possible.");
        bad(Q + "fencefence;", SYNTAX, 12);
        bad(Q + "lengthload;", SYNTAX, 12);
        good(Q + "length load;", 0);
        good(Q + "length(load);", 0);
        good(Q + "length1;", 0);
        good(Q + "task 1 1core 0;", 1);
        good(Q + "task 1 1core0;task 1 1after0;", 2);
        bad(Q + "task 1 1 coreafter 0;", SYNTAX, 21);
        bad(Q + "fenc e;", SYNTAX, 12);
        bad(Q + "fence1;", SYNTAX, 17);
        for (String sign : new String[] {"`", "{", "A", "Z", "@", "[", "_"}) {
            bad(Q + "fence" + sign + ";", SYNTAX, 17);
            bad(Q + sign + "fence;", SYNTAX, 12);
        }
        bad(Q + "FENCE;", SYNTAX, 12);
        bad(Q + "fencE;", SYNTAX, 12);
        bad(Q + "afence;", SYNTAX, 12);
        bad(Q + "fencez;", SYNTAX, 12);
        bad("aqueue 1 1 1;", SYNTAX, 0);
        bad("queuez 1 1 1;", SYNTAX, 0);
    }

    /** Each letter of each word of the grammar, replaced by the next one and left out. */
    private static void eachLetter() {
        Check.about("A number is a run of decimal digits; a word is a run of the letters a to z.");
        String[][] words = {{"", "queue", " 2 8 1;"}, {Q, "task", " 1 1;"}, {Q, "fence", ";"},
            {Q, "length", " 1;"}, {Q + "task 1 1 ", "core", " 1;"},
            {Q + "task 1 1;task 1 1 ", "after", " 0;"}, {Q + "length ", "duration", ";"},
            {Q + "length ", "priority", ";"}, {Q + "length ", "core", ";"},
            {Q + "length ", "load", ";"}};
        for (String[] parts : words) {
            String word = parts[1];
            int offset = parts[0].length();
            Check.equal("load with " + word,
                    Check.load(new HardwareTaskQueue(), parts[0] + word + parts[2]) >= 0, true);
            for (int i = 0; i < word.length(); i++) {
                String before = parts[0] + word.substring(0, i);
                String behind = word.substring(i + 1) + parts[2];
                bad(before + (char) (word.charAt(i) - 1) + behind, SYNTAX, offset);
                bad(before + (char) (word.charAt(i) + 1) + behind, SYNTAX, offset);
                bad(before + behind, SYNTAX, offset);
                bad(before + word.charAt(i) + word.charAt(i) + behind, SYNTAX, offset);
            }
        }
    }

    /** With no space but those that keep runs apart, and with one and three before each token. */
    private static void spaces() {
        Check.about("Spaces (byte 32) may precede any token and may follow the last one.");
        String[] tokens = {"queue", "2", "8", "1", ";", "task", "1", "1", "core", "1", ";", "fence",
            ";", "task", "1", "1", "after", "0", ";", "length", "(", "1", "+", "2", ")", "*", "load",
            "-", "core", "/", "3", ";"};
        good(String.join(" ", tokens), 2);
        good(" " + String.join(" ", tokens) + " ", 2);
        good("   " + String.join("   ", tokens) + "   ", 2);
        StringBuilder dense = new StringBuilder();
        String digits = "[0-9]+";
        for (int i = 0; i < tokens.length; i++) {
            boolean apart = i > 0 && tokens[i].matches(digits) && tokens[i - 1].matches(digits);
            dense.append(apart ? " " : "").append(tokens[i]);
        }
        good(dense.toString(), 2);
        bad(dense + " x", SYNTAX, dense.length() + 1);
        bad("que ue 2 8 1;", SYNTAX, 0);
        bad("queue 2 8 1 0;", SYNTAX, 12);
    }

    private static void noOtherSeparator() {
        Check.about("No other byte separates tokens.");
        for (int sign = 0; sign < 256; sign++) {
            HardwareTaskQueue q = new HardwareTaskQueue();
            String text = Q + (char) sign + "fence;";
            Check.equal("byte " + sign + " before fence", Check.load(q, text),
                    sign == 32 ? 0 : SYNTAX);
            Check.equal("errorOffset with byte " + sign, q.errorOffset(), sign == 32 ? -1 : 12);
            boolean digit = sign >= '0' && sign <= '9';
            Check.equal("byte " + sign + " between numbers", Check.load(q, "queue 2" + (char) sign
                    + "8 1;"), sign == 32 ? 0 : digit ? RANGE : SYNTAX);
            Check.equal("errorOffset with byte " + sign, q.errorOffset(),
                    sign == 32 ? -1 : digit ? 6 : 7);
            Check.equal("byte " + sign + " at the end", Check.load(q, Q + (char) sign),
                    sign == 32 ? 0 : SYNTAX);
        }
        for (String sign : new String[] {"\t", "\n", "\r", "\u001f", "!", "\u0000", "\u00a0", "\u00ff"}) {
            bad(Q + sign, SYNTAX, 12);
            bad(sign + Q, SYNTAX, 0);
        }
    }

    private static void numbersOfQueue() {
        Check.about("The numbers of queue are the number of cores, the capacity and the steal cost.");
        HardwareTaskQueue q = Check.queue(4, "queue 3 2 5;" + "task 7 1 core 2;".repeat(4));
        Check.equal("coreCount", q.coreCount(), 3);
        q.pause(0, true);
        q.pause(1, true);
        q.pause(2, true);
        q.run(1);
        Check.equal("capacity", q.queueLength(2), 2);
        q.pause(1, false);
        q.run(8);
        Check.equal("steal cost", q.remaining(1), 12);
        bad("queue 0 1 0;", RANGE, 6);
        good("queue 1 1 0;", 0);
        good("queue 4 8 20;", 0);
        bad("queue 5 8 20;", RANGE, 6);
        bad("queue 4 0 20;", RANGE, 8);
        bad("queue 4 9 20;", RANGE, 8);
        bad("queue 4 8 21;", RANGE, 10);
    }

    private static void numbersOfTask() {
        Check.about("Those of task are the duration and the priority; core gives the home core");
        HardwareTaskQueue q = Check.queue(1, "queue 4 8 0;task 8 7 core 3;");
        for (int c = 0; c < 3; c++) {
            q.pause(c, true);
        }
        q.run(1);
        Check.equal("priority", q.priority(0), 7);
        Expect.core(q, 3, 0, 8, 1, 0);
        bad(Q + "task 0 0;", RANGE, 17);
        good(Q + "task 1 0;", 1);
        good(Q + "task 99 9;", 1);
        bad(Q + "task 100 9;", RANGE, 17);
        bad(Q + "task 99 10;", RANGE, 20);
        for (int cores = 1; cores <= 4; cores++) {
            String start = "queue " + cores + " 8 1;task 1 1 core ";
            good(start + "0;", 1);
            good(start + (cores - 1) + ";", 1);
            bad(start + cores + ";", RANGE, start.length());
        }
    }

    private static void homeCoreWithout() {
        Check.about("(without it, the home core is the index of the task modulo the number of cores)");
        for (int cores = 1; cores <= 4; cores++) {
            int tasks = 2 * cores + 1;
            HardwareTaskQueue q = Check.queue(tasks,
                    "queue " + cores + " 8 0;fence;" + "task 1 1;".repeat(tasks));
            for (int c = 0; c < cores; c++) {
                q.pause(c, true);
            }
            q.run(1);
            if (cores == 1) {
                Expect.queue(q, 0, 0, 1, 2);
                continue;
            }
            Expect.queue(q, 0, 0, cores, 2 * cores);
            for (int c = 1; c < cores; c++) {
                Expect.queue(q, c, c, cores + c);
            }
        }
    }

    private static void after() {
        Check.about("after gives the predecessors.");
        StringBuilder all = new StringBuilder(Q + "task 1 1;".repeat(31) + "task 1 1 after");
        for (int t = 30; t >= 0; t--) {
            all.append(' ').append(t);
        }
        HardwareTaskQueue q = Check.queue(32, all + ";");
        Check.equal("31 predecessors", q.counter(31), 31);
        bad(all + " 31;", RANGE, all.length() + 1);
        bad(all + " 0;", RANGE, all.length() + 1);
        bad(all + " 30;", RANGE, all.length() + 1);
        HardwareTaskQueue one = Check.queue(2, Q + "task 1 1;task 1 1 after 0;");
        Expect.counters(one, 0, 1);
    }

    private static void numberAsFactor() {
        Check.about("A number as a factor is 0 to 9999.");
        good(Q + "length 0;", 0);
        good(Q + "length 1;", 0);
        good(Q + "length 9998;", 0);
        good(Q + "length 9999;", 0);
        good(Q + "length 00000000009999;", 0);
        bad(Q + "length 10000;", RANGE, 19);
        bad(Q + "length 010000;", RANGE, 19);
        bad(Q + "length 1+(2*10000);", RANGE, 24);
        bad(Q + "length 4294967296;", RANGE, 19);
    }

    private static void nesting() {
        Check.about("Parentheses nest at most 4 deep.");
        good(Q + "length (((1)));", 0);
        good(Q + "length ((((1))));", 0);
        bad(Q + "length (((((1)))));", DEEP, 23);
        good(Q + "length ((((1))))+((((1))))*((((1))));", 0);
        good(Q + "length (1)+(1)*(1)/(1)-(1)+(1);", 0);
        good(Q + "length 1+(1+(1+(1+(1+1))));", 0);
        bad(Q + "length 1+(1+(1+(1+(1+(1)))));", DEEP, 33);
        bad(Q + "length ((((1)+(1)+((1)))));", DEEP, 31);
        good(Q + "length (((1)+((1))+((1))*(1)/((1))));", 0);
    }

    private static void lengthOnce() {
        Check.about("The statement length may occur once.");
        good(Q + "task 1 1;fence;", 1);
        good(Q + "length 1;task 1 1;fence;", 1);
        good(Q + "task 1 1;length 1;fence;", 1);
        good(Q + "task 1 1;fence;length 1;", 1);
        bad(Q + "length 1;length 1;", SYNTAX, 21);
        bad(Q + "length 1;task 1 1;fence;length 2;", SYNTAX, 36);
        // Also in the next text it may occur once.
        HardwareTaskQueue q = Check.queue(0, Q + "length 1;");
        Check.equal("a second text", Check.load(q, Q + "length 2;"), 0);
        Check.equal("an error", Check.load(q, Q + "length 2;x"), SYNTAX);
        Check.equal("a fourth text", Check.load(q, Q + "length 2;"), 0);
    }

    private static void smallestOffset() {
        Check.about("The first error in the text is the one with the smallest offset.");
        String deep = "length (((((1)))));";
        bad(Q + "x;task 0 0;", SYNTAX, 12);
        bad(Q + "task 0 0;x;", RANGE, 17);
        bad(Q + "task 0 x;", RANGE, 17);
        bad(Q + "task x 10;", SYNTAX, 17);
        bad(Q + "task 0 10;", RANGE, 17);
        bad(TASKS + "task 0 0;x;", MANY, 300);
        bad(TASKS + "x;task 0 0;", SYNTAX, 300);
        bad(FENCES + "task 0 0;fence;", RANGE, 65);
        bad(FENCES + "fence;task 0 0;", MANY, 60);
        bad(FENCES + "fence;" + deep, MANY, 60);
        bad(FENCES + deep + "fence;", DEEP, 71);
        bad(Q + deep + "x;", DEEP, 23);
        bad(Q + deep + "task 0 0;", DEEP, 23);
        bad(Q + "task 0 0;" + deep, RANGE, 17);
        bad(Q + "length 10000+(((((1)))));", RANGE, 19);
        bad(Q + "length (((((10000)))));", DEEP, 23);
        bad(Q + "length ((((10000)))));", RANGE, 23);
        bad("queue 0 0 99;", RANGE, 6);
        bad("queue 0", RANGE, 6);
        bad("queue 1 0", RANGE, 8);
        bad("queue 1 1 21", RANGE, 10);
    }

    private static void sameOffset() {
        Check.about("If several kinds of error have the same offset, the first one in this list"
                + " counts");
        // A number that is not allowed here is a SYNTAX_ERROR, however great it is.
        bad("queue 1 1 1 99999;", SYNTAX, 12);
        bad(Q + "task 1 1 99999;", SYNTAX, 21);
        bad(Q + "task 1 1 core 0 99999;", SYNTAX, 28);
        bad(Q + "99999;", SYNTAX, 12);
        bad(Q + "fence 99999;", SYNTAX, 18);
        bad(Q + "length 1 99999;", SYNTAX, 21);
        // So is a task or fence too many where the grammar allows none.
        bad(TASKS + "fence task 1 1;", SYNTAX, 306);
        bad(TASKS + "length task;", SYNTAX, 307);
        bad(FENCES + "task 1 1 fence;", SYNTAX, 69);
        bad(Q + "fence;".repeat(7) + "fence fence;", SYNTAX, 60);
        bad(Q + "task 1 1;".repeat(31) + "task 1 1 task 1 1;", SYNTAX, 300);
        // So is a parenthesis inside 4 others behind a factor.
        bad(Q + "length ((((1(1)))));", SYNTAX, 24);
        bad(Q + "length ((((load(1)))));", SYNTAX, 27);
        bad(Q + "length (((((1)))));", DEEP, 23);
    }

    private static void syntaxErrors() {
        Check.about("SYNTAX_ERROR: a token or byte that the grammar does not allow here, at its"
                + " first byte; ...");
        bad("x", SYNTAX, 0);
        bad("   x", SYNTAX, 3);
        bad("   xyz 1 1 1;", SYNTAX, 3);
        bad("queue   xyz 1 1;", SYNTAX, 8);
        bad("queue 1 1 1  123;", SYNTAX, 13);
        bad("queue 1 1 1 ; $", SYNTAX, 14);
        bad("queue 1 1 1;  \u0000\u0000", SYNTAX, 14);
        bad(Q + "task 1 1   cores 1;", SYNTAX, 23);
        bad(Q + "task 1 1;task 1 1 after 0  ,1;", SYNTAX, 39);
    }

    private static void tooEarlyEnds() {
        Check.about("... the end of the text, at its length, if the text ends too early; ...");
        String[] tokens = {"queue", " 2", " 8", " 1", ";", "task", " 1", " 1", " core", " 1",
            " after", " 0", ";", "length", " (", "1", "+", "load", ")", "*", "3", ";", "fence", ";"};
        StringBuilder text = new StringBuilder();
        bad("", SYNTAX, 0);
        bad("  ", SYNTAX, 2);
        for (String token : tokens) {
            if (token.equals(" after")) {
                text.append(";task 1 1");
            }
            text.append(token);
            if (token.equals(";")) {
                Check.equal("'" + text + "'", Check.load(new HardwareTaskQueue(), text + "") >= 0,
                        true);
                good(text + "  ", text.indexOf("after") > 0 ? 2 : text.indexOf("task") > 0 ? 1 : 0);
            } else {
                bad(text.toString(), SYNTAX, text.length());
                bad(text + "  ", SYNTAX, text.length() + 2);
            }
        }
    }

    private static void secondLength() {
        Check.about("... a second length, at its first letter.");
        bad(Q + "length 1;length 1;", SYNTAX, 21);
        bad(Q + "length 1;   length 1;", SYNTAX, 24);
        bad(Q + "length 1;length", SYNTAX, 21);
        bad(Q + "length 1;fence;length;", SYNTAX, 27);
        bad(Q + "length 1;length 10000;", SYNTAX, 21);
        bad(Q + "length 10000;length 1;", RANGE, 19);
    }

    private static void rangeErrors() {
        Check.about("OUT_OF_RANGE: a number outside its range, at its first digit; this includes a"
                + " core that does not exist, a predecessor that is not an earlier task, and one"
                + " that the task has already.");
        bad("queue    5 1 1;", RANGE, 9);
        bad("queue 0005 1 1;", RANGE, 6);
        bad(Q + "task 1 1 core   2;", RANGE, 28);
        bad(Q + "task 1 1 core 1;task 1 1 core 02;", RANGE, 42);
        String second = Q + "task 1 1;task 1 1 after ";
        good(second + "0;", 2);
        bad(second + "1;", RANGE, 36);
        bad(second + "2;", RANGE, 36);
        bad(second + "0 0;", RANGE, 38);
        bad(second + "0 000;", RANGE, 38);
        bad(second + "0 1;", RANGE, 38);
        String third = Q + "task 1 1;task 1 1;task 1 1 after ";
        good(third + "1 0;", 3);
        bad(third + "1 0 1;", RANGE, 49);
        bad(third + "0 1 0;", RANGE, 49);
        bad(third + "0 1   2;", RANGE, 51);
        // Predecessors are those of one task: the next task may have the same.
        good(second + "0;task 1 1 after 0 1;", 3);
        bad(second + "32;", RANGE, 36);
        bad(second + "0 32;", RANGE, 38);
    }

    private static void tooMany() {
        Check.about("TOO_MANY: a task or fence beyond the maximum number, at the first letter of its"
                + " statement.");
        good(Q + "task 1 1;".repeat(31), 31);
        good(TASKS, 32);
        bad(TASKS + "task 1 1;", MANY, 300);
        bad(TASKS + "   task 1 1;", MANY, 303);
        bad(TASKS + "fence;task", MANY, 306);
        bad(TASKS + "task", MANY, 300);
        good(Q + "fence;".repeat(7), 0);
        good(FENCES, 0);
        bad(FENCES + "fence;", MANY, 60);
        bad(FENCES + "   fence;", MANY, 63);
        bad(FENCES + "task 1 1;fence", MANY, 69);
        good(TASKS + "fence;".repeat(8), 32);
        bad(TASKS + "fence;".repeat(9), MANY, 348);
    }

    private static void tooDeep() {
        Check.about("TOO_DEEP: an opening parenthesis inside 4 others, at that parenthesis.");
        good(Q + "length ((((1))));", 0);
        bad(Q + "length (((((", DEEP, 23);
        bad(Q + "length (((( (", DEEP, 24);
        bad(Q + "length ( ( ( ( (1)))));", DEEP, 27);
        bad(Q + "length ((((1+(1)))));", DEEP, 25);
        bad(Q + "length ((((1))))+(((((1)))));", DEEP, 33);
        bad(Q + "length ((((1))*(((", DEEP, 29);
    }
}
