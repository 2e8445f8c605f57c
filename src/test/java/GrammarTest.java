/** One text that uses all of the grammar, spoiled in all small ways, against ModelSetup. */
public final class GrammarTest {
    private static final String TEXT = "queue 3 4 20;task 9 0;task 10 9 core 2;fence;"
            + " length((3+load)*2-(core/(priority))) ;task 1 1 after 1;task 99 3core 1after 0 2 1;";
    private static final String SIGNS = " ;09a(z)+-*/$";

    public static void main(String[] args) {
        prefixes();
        replacedBytes();
        insertedBytes();
        removedParts();
        swappedParts();
        Check.end();
    }

    private static void compare(String text) {
        HardwareTaskQueue q = new HardwareTaskQueue();
        ModelSetup due = new ModelSetup(text);
        Check.equal("load of '" + text + "'", Check.load(q, text),
                due.error == 0 ? due.model.tasks.size() : due.error);
        Check.equal("errorOffset of '" + text + "'", q.errorOffset(), due.errorOffset);
        Check.equal("checksum of '" + text + "'", q.checksum(),
                due.error == 0 ? due.model.checksum() : 0);
    }

    private static void prefixes() {
        Check.about("the end of the text, at its length, if the text ends too early");
        for (int length = 0; length <= TEXT.length(); length++) {
            compare(TEXT.substring(0, length));
            compare(TEXT.substring(0, length) + " ");
            HardwareTaskQueue q = new HardwareTaskQueue();
            Check.feed(q, TEXT);
            ModelSetup due = new ModelSetup(TEXT.substring(0, length));
            Check.equal("load(" + length + ")", q.load(length),
                    due.error == 0 ? due.model.tasks.size() : due.error);
            Check.equal("errorOffset", q.errorOffset(), due.errorOffset);
        }
    }

    private static void replacedBytes() {
        Check.about("a token or byte that the grammar does not allow here, at its first byte");
        for (int at = 0; at < TEXT.length(); at++) {
            for (int sign = 0; sign < 256; sign++) {
                compare(TEXT.substring(0, at) + (char) sign + TEXT.substring(at + 1));
            }
        }
    }

    private static void insertedBytes() {
        Check.about("a token or byte that the grammar does not allow here, at its first byte");
        for (int at = 0; at <= TEXT.length(); at++) {
            for (char sign : SIGNS.toCharArray()) {
                compare(TEXT.substring(0, at) + sign + TEXT.substring(at));
            }
        }
    }

    private static void removedParts() {
        Check.about("a token or byte that the grammar does not allow here, at its first byte");
        for (int from = 0; from < TEXT.length(); from++) {
            for (int to = from + 1; to <= TEXT.length(); to++) {
                compare(TEXT.substring(0, from) + TEXT.substring(to));
            }
        }
    }

    private static void swappedParts() {
        Check.about("The first error in the text is the one with the smallest offset.");
        String[] parts = TEXT.split("(?<=;)|(?= )");
        for (int i = 0; i < parts.length; i++) {
            for (int k = 0; k < parts.length; k++) {
                String[] swapped = parts.clone();
                swapped[i] = parts[k];
                compare(String.join("", swapped));
                swapped[k] = parts[i];
                compare(String.join("", swapped));
            }
        }
    }
}
