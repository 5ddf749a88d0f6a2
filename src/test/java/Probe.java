/** What the tests share: writing cards as texts, reading statements as texts, and counting what is wrong. */
final class Probe {
    /** What card() came to when it threw. */
    static final int ARGUMENT = -100;
    static final int STATE = -200;

    private int wrong;

    void due(String call, long want, long got) {
        if (want != got) {
            wrong++;
            System.out.println(call + " answered " + got + ", due is " + want);
        }
    }

    void due(String call, boolean want, boolean got) {
        due(call, want ? 1 : 0, got ? 1 : 0);
    }

    void due(String call, String want, String got) {
        if (!want.equals(got)) {
            wrong++;
            System.out.println(call + " answered " + got + ", due is " + want);
        }
    }

    /** What each of these texts is, alone in a deck. */
    void is(int want, String... texts) {
        for (String text : texts) {
            DeckFront deck = new DeckFront();
            due("card of " + text, 0, add(deck, text));
            due("what of " + text, want, deck.what(0));
        }
    }

    /** How a text is shown, alone in a deck. */
    void shows(String text, String want) {
        DeckFront deck = new DeckFront();
        due("card of " + text, 0, add(deck, text));
        due("shown of " + text, want, shown(deck, 0));
    }

    /** The first fault of a program, whose statements are parted by semicolons, and where it is. */
    void fault(int want, int wantAt, String program) {
        DeckFront deck = deck(program.split(";", -1));
        due("fault of " + program, want, deck.fault());
        due("faultAt of " + program, wantAt, deck.faultAt());
        due("faultAt of " + program + " again", wantAt, deck.faultAt());
        due("fault of " + program + " again", want, deck.fault());
    }

    /** A program without a fault. */
    void good(String program) {
        fault(0, DeckFront.NONE, program);
    }

    /** Ends the test, with exit code 1 if something was wrong. */
    void end() {
        System.out.println(wrong == 0 ? "all answers are as due" : wrong + " answers are not as due");
        if (wrong != 0) {
            System.exit(1);
        }
    }

    /** Up to eight characters as the bytes of a number, the first one highest, zeros before them. */
    static long word(String signs) {
        long word = 0;
        for (int i = 0; i < signs.length(); i++) {
            word = word << 8 | signs.charAt(i) & 255;
        }
        return word;
    }

    static boolean write(DeckFront deck, String signs) {
        boolean all = true;
        for (int i = 0; i < signs.length(); i += 8) {
            all &= deck.write(word(signs.substring(i, Math.min(i + 8, signs.length()))));
        }
        return all;
    }

    static int join(DeckFront deck) {
        try {
            return deck.card();
        } catch (IllegalArgumentException e) {
            return ARGUMENT;
        } catch (IllegalStateException e) {
            return STATE;
        }
    }

    /** Writes a card, columns as they are, and joins it. */
    static int card(DeckFront deck, String columns) {
        return write(deck, columns) ? join(deck) : -300;
    }

    /** Joins a statement, on as many cards as it needs; a label may stand before a colon. */
    static int add(DeckFront deck, String statement) {
        int colon = statement.indexOf(':');
        String label = colon < 0 ? "" : statement.substring(0, colon);
        String text = statement.substring(colon + 1);
        // Column 6 is a 0, so that a statement without a text is no blank card.
        int number = card(deck, String.format("%5s0", label) + text.substring(0, Math.min(66, text.length())));
        for (int i = 66; i < text.length() && number >= 0; i += 66) {
            number = card(deck, "     1" + text.substring(i, Math.min(i + 66, text.length())));
        }
        return number;
    }

    static DeckFront deck(String... statements) {
        DeckFront deck = new DeckFront();
        for (String statement : statements) {
            if (add(deck, statement) < 0) {
                throw new AssertionError(statement);
            }
        }
        return deck;
    }

    static String shown(DeckFront deck, int statement) {
        StringBuilder shown = new StringBuilder();
        for (int k = 0; k < 1000; k++) {
            int sign = deck.shown(statement, k);
            if (sign == DeckFront.NONE) {
                return shown.toString();
            }
            shown.append((char) sign);
        }
        return "without an end";
    }
}
