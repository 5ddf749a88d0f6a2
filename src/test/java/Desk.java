/** An object that counts its calls, since nothing is promised of it behind the 512th. */
final class Desk {
    static final int MOST_CALLS = 512;

    /** What joining answers if the card could not be written. */
    static final int NOT_WRITTEN = -300;

    private static final String[] NAMES = {"A", "F", "I", "X", "ABCDEF"};

    private final DeckFront front = new DeckFront();
    private int calls;

    /** The object, for one call. */
    DeckFront ask() {
        calls++;
        if (calls > MOST_CALLS) {
            throw new AssertionError("the test makes more calls than the document promises anything for");
        }
        return front;
    }

    int calls() {
        return calls;
    }

    /** Writes signs, eight with each call; false if one of the calls was refused. */
    boolean write(String signs) {
        boolean all = true;
        for (int i = 0; i < signs.length(); i += 8) {
            all &= ask().write(Probe.word(signs.substring(i, Math.min(i + 8, signs.length()))));
        }
        return all;
    }

    /** The card joins the deck: its statement, NONE, Probe.ARGUMENT or Probe.STATE. */
    int join() {
        return Probe.join(ask());
    }

    /** Writes a card, columns as they are, and joins it. */
    int card(String columns) {
        return write(columns) ? join() : NOT_WRITTEN;
    }

    String shown(int statement) {
        StringBuilder shown = new StringBuilder();
        for (int sign = ask().shown(statement, 0); sign != DeckFront.NONE;) {
            shown.append((char) sign);
            sign = ask().shown(statement, shown.length());
        }
        return shown.toString();
    }

    /** All that can be asked about the deck; two decks that are the same give the same text. */
    String seen() {
        int statements = ask().statements();
        StringBuilder seen = new StringBuilder("statements " + statements);
        for (int i = 0; i < statements; i++) {
            seen.append("; ").append(ask().label(i)).append(' ').append(ask().what(i)).append(' ').append(shown(i));
        }
        for (String name : NAMES) {
            long word = Probe.word(name);
            seen.append("; ").append(name).append(' ').append(ask().kind(word)).append(' ').append(ask().type(word));
        }
        return seen.append("; fault ").append(ask().fault()).append(' ').append(ask().faultAt()).toString();
    }
}
