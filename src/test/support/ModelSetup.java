import java.util.ArrayList;
import java.util.List;

/** Reads a setup text for Model: first all tokens, then a walk over them that stops at an error. */
final class ModelSetup {
    private static final class Stop extends Exception {
        private static final long serialVersionUID = 1;
    }

    int error = 0;
    int errorOffset = -1;
    final Model model = new Model();
    private final List<String> tokens = new ArrayList<>();
    private final List<Integer> offsets = new ArrayList<>();
    private int at = 0;

    ModelSetup(String text) {
        int i = 0;
        while (i < text.length()) {
            int from = i;
            if (text.charAt(i) == ' ') {
                i++;
                continue;
            }
            while (i < text.length() && String.valueOf(text.charAt(i)).matches("[0-9]")) {
                i++;
            }
            while (i == from || isLetter(text, from) && i < text.length() && isLetter(text, i)) {
                i++;
            }
            tokens.add(text.substring(from, i));
            offsets.add(from);
        }
        tokens.add("");
        offsets.add(text.length());
        try {
            setup();
        } catch (Stop stop) {
            errorOffset = offsets.get(at);
        }
    }

    private static boolean isLetter(String text, int i) {
        return text.charAt(i) >= 'a' && text.charAt(i) <= 'z';
    }

    private String token() {
        return tokens.get(at);
    }

    private void stop(int code) throws Stop {
        error = code;
        throw new Stop();
    }

    private void expect(String token) throws Stop {
        if (!token().equals(token)) {
            stop(HardwareTaskQueue.SYNTAX_ERROR);
        }
        at++;
    }

    private int number(int low, int high) throws Stop {
        if (!token().matches("[0-9]+")) {
            stop(HardwareTaskQueue.SYNTAX_ERROR);
        }
        java.math.BigInteger value = new java.math.BigInteger(token());
        if (value.compareTo(java.math.BigInteger.valueOf(low)) < 0
                || value.compareTo(java.math.BigInteger.valueOf(high)) > 0) {
            stop(HardwareTaskQueue.OUT_OF_RANGE);
        }
        at++;
        return value.intValue();
    }

    private void setup() throws Stop {
        expect("queue");
        int cores = number(1, 4);
        for (int c = 0; c < cores; c++) {
            model.cores.add(new Model.Core());
        }
        model.capacity = number(1, 8);
        model.stealCost = number(0, 20);
        expect(";");
        boolean length = false;
        while (!token().isEmpty()) {
            if (token().equals("task")) {
                task(cores);
            } else if (token().equals("fence")) {
                if (model.fences.size() == 8) {
                    stop(HardwareTaskQueue.TOO_MANY);
                }
                model.fences.add(model.tasks.size());
                at++;
            } else if (token().equals("length") && !length) {
                length = true;
                at++;
                int from = at;
                sum(0);
                model.expression = List.copyOf(tokens.subList(from, at));
            } else {
                stop(HardwareTaskQueue.SYNTAX_ERROR);
            }
            expect(";");
        }
    }

    private void task(int cores) throws Stop {
        if (model.tasks.size() == 32) {
            stop(HardwareTaskQueue.TOO_MANY);
        }
        at++;
        Model.Task task = model.add(number(1, 99), number(0, 9), model.tasks.size() % cores);
        if (token().equals("core")) {
            at++;
            task.home = number(0, cores - 1);
        }
        if (token().equals("after")) {
            at++;
            do {
                int predecessor = number(0, task.index - 1);
                if (!task.predecessors.add(predecessor)) {
                    at--;
                    stop(HardwareTaskQueue.OUT_OF_RANGE);
                }
            } while (token().matches("[0-9]+"));
        }
    }

    private void sum(int depth) throws Stop {
        factor(depth);
        while (token().matches("[-+*/]")) {
            at++;
            factor(depth);
        }
    }

    private void factor(int depth) throws Stop {
        if (token().equals("(")) {
            if (depth == 4) {
                stop(HardwareTaskQueue.TOO_DEEP);
            }
            at++;
            sum(depth + 1);
            expect(")");
        } else if (token().matches("duration|priority|core|load")) {
            at++;
        } else {
            number(0, 9999);
        }
    }
}
