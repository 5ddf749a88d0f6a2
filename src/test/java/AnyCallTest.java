/** Many runs of calls, made by a fixed rule: none throws what it must not, and what is shown reads as itself. */
public final class AnyCallTest {
    private static final String[] PIECES = {"A", "B(", "F()", "I", "1", "2.", ".5E3", "10", "(", ")", ",", "=", "+",
        "-", "*", "/", "**", ".OR.", ".AND.", ".NOT.", ".LT.", ".EQ.", ".TRUE.", "'", "'A B'", "DO", "IF(", ")THEN",
        "ELSE", "ENDIF", "GOTO", "GOTO(", "CALL", "PRINT*,", "END", "REAL", "DIMENSION", "CONTINUE", "STOP", " ", "."};
    private static final String[] PRIMARIES = {"A", "B1", "3", "1.", ".5", "2.E3", "F()", ".TRUE.", "'Q, ='", "-X"};
    private static final String[] BETWEEN = {"+", "-", "*", "/", "**", ".OR.", ".AND.", ".LT.", ".EQ.", ".GE."};

    private static final Probe PROBE = new Probe();
    private static long state = 20261115;

    private static int pick(int bound) {
        state = state * 6364136223846793005L + 1442695040888963407L;
        return (int) ((state >>> 33) % bound);
    }

    public static void main(String[] args) {
        for (int run = 0; run < 3000; run++) {
            anyRun(run);
        }
        int read = 0;
        for (int run = 0; run < 60000; run++) {
            String expression = expression(pick(4));
            if (expression.length() <= 60) {
                read += readsAsItself("X=" + expression);
                read += readsAsItself("IF(" + expression + ")GOTO(007,1),I");
                read += readsAsItself("DO010,I=" + expression + ",2");
            }
        }
        PROBE.due("some tens of thousands were read", true, read > 20000);
        PROBE.end();
    }

    private static void anyRun(int run) {
        DeckFront deck = new DeckFront();
        try {
            for (int call = 0; call < 500; call++) {
                anyCall(deck);
            }
        } catch (RuntimeException e) {
            PROBE.due("run " + run + " threw " + e, 0, 1);
        }
    }

    private static void anyCall(DeckFront deck) {
        long any = state * 31;
        switch (pick(16)) {
            case 0: deck.write(any); break;
            case 1: if (pick(20) == 0) { deck.clear(); } break;
            case 2: deck.fault(); deck.faultAt(); break;
            case 3: deck.kind(any); deck.type(any); break;
            case 4: deck.kind(Probe.word("A")); deck.type(Probe.word("I")); break;
            case 5: deck.label(pick(30) - 3); deck.what(pick(30) - 3); break;
            case 6: deck.shown(pick(30) - 3, pick(200) - 3); deck.shown((int) any, (int) (any >>> 20)); break;
            case 7: Probe.join(deck); break;
            default: anyCard(deck);
        }
    }

    private static void anyCard(DeckFront deck) {
        StringBuilder card = new StringBuilder(pick(3) == 0 ? "   10 " : pick(3) == 0 ? "     1" : "      ");
        int pieces = pick(20);
        for (int i = 0; i < pieces; i++) {
            card.append(PIECES[pick(PIECES.length)]);
        }
        Probe.write(deck, card.toString());
        Probe.join(deck);
    }

    private static String expression(int depth) {
        if (depth == 0) {
            return PRIMARIES[pick(PRIMARIES.length)];
        }
        String left = expression(pick(depth));
        String right = expression(pick(depth));
        switch (pick(5)) {
            case 0: return "(" + left + BETWEEN[pick(BETWEEN.length)] + right + ")";
            case 1: return ".NOT." + left;
            case 2: return "F(" + left + "," + right + ")";
            default: return left + BETWEEN[pick(BETWEEN.length)] + right;
        }
    }

    /** 1 if the text is a statement: then the shown one is the same, and is shown as it stands. */
    private static int readsAsItself(String text) {
        DeckFront deck = Probe.deck(text);
        int what = deck.what(0);
        String shown = Probe.shown(deck, 0);
        if (what == 0) {
            PROBE.due("shown of " + text, text, shown);
            return 0;
        }
        if (shown.length() > 80) {
            return 0;
        }
        DeckFront again = Probe.deck(shown);
        PROBE.due("what of " + shown, what, again.what(0));
        PROBE.due("shown of " + shown, shown, Probe.shown(again, 0));
        return 1;
    }
}
