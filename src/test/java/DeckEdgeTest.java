/**
 * The boundaries of the deck: the sentences of 'Terms' on texts and the deck, and promises 3 to 6. Where a card is
 * refused, all that can be asked about the deck is asked before and behind.
 */
public final class DeckEdgeTest {
    private static final Probe PROBE = new Probe();

    public static void main(String[] args) {
        blanksAndQuotes();
        quotesOverCards();
        statements24();
        signs80();
        blanksInALongText();
        oneCardIsNeverTooLong();
        emptyWhateverComesOfIt();
        wrongLabelField();
        labelOfAContinuation();
        nothingToContinue();
        beyond24();
        tooLong();
        tooLongInAQuote();
        theOneNamedFirst();
        clearing();
        countOfStatements();
        labelsOfStatements();
        PROBE.end();
    }

    /** The deck is the same behind a card that is refused, and the card is empty. */
    private static void refused(Desk desk, int want, String columns) {
        String before = desk.seen();
        PROBE.due("card of '" + columns + "'", want, desk.card(columns));
        PROBE.due("the deck behind '" + columns + "'", before, desk.seen());
        PROBE.due("the card behind '" + columns + "'", DeckFront.NONE, desk.join());
    }

    /** A deck whose statements are labels alone, which takes few calls. */
    private static Desk deckOf(int statements) {
        Desk desk = new Desk();
        for (int i = 0; i < statements; i++) {
            PROBE.due("statement " + i, i, desk.card("" + (100 + i)));
        }
        return desk;
    }

    /** "without the blanks outside of QUOTES (from a ' to the next one)". */
    private static void blanksAndQuotes() {
        String[] texts = {" A B ", "'A B'", " ' A B ' ", "A ' ' B", "' ' ' '", "'' A ''", "' '' '", " 'A' 'B' C D",
            "'  '"};
        String[] want = {"AB", "'A B'", "' A B '", "A' 'B", "' '' '", "''A''", "' '' '", "'A''B'CD", "'  '"};
        for (int i = 0; i < texts.length; i++) {
            Desk desk = new Desk();
            PROBE.due("card of " + texts[i], 0, desk.card("     0" + texts[i]));
            PROBE.due("text of " + texts[i], want[i], desk.shown(0));
        }
    }

    /** "A statement's text is that of its cards, one behind the other": a quote may go on. */
    private static void quotesOverCards() {
        Desk desk = new Desk();
        desk.card("      X = 'A ");
        PROBE.due("goes on", 0, desk.card("     1 B' . "));
        PROBE.due("goes on", 0, desk.card("     1 EQ . 'C"));
        PROBE.due("goes on", 0, desk.card("     1  ' "));
        PROBE.due("blanks in the quotes alone", "X=('A  B'.EQ.'C  ')", desk.shown(0));
        desk.card("      Y = 'A ");
        desk.card("      Z = 1 ");
        PROBE.due("a quote does not go on in the next statement", "Z=1", desk.shown(2));
        PROBE.due("it goes on in the last one alone", 2, desk.card("     1 + 1"));
        PROBE.due("the last one", "Z=(1+1)", desk.shown(2));
        desk.ask().clear();
        desk.card("      Y = 'A ");
        desk.ask().clear();
        desk.card("      Z = 1 ");
        PROBE.due("nor in a deck that was cleared", "Z=1", desk.shown(0));
    }

    /** "A DECK has at most 24 statements, numbered from 0 on". */
    private static void statements24() {
        Desk desk = deckOf(23);
        PROBE.due("statements()", 23, desk.ask().statements());
        PROBE.due("the 24th", 23, desk.card("99"));
        PROBE.due("the 25th", Probe.STATE, desk.card("98"));
        PROBE.due("statements()", 24, desk.ask().statements());
        PROBE.due("label of the first", 100, desk.ask().label(0));
        PROBE.due("label of the last", 99, desk.ask().label(23));
        PROBE.due("a comment has place", DeckFront.NONE, desk.card("C"));
        PROBE.due("what continues has place", 23, desk.card("     1END"));
        PROBE.due("the last", 14, desk.ask().what(23));
    }

    /** "with texts of at most 80 characters." */
    private static void signs80() {
        for (int more = 13; more <= 15; more++) {
            Desk desk = new Desk();
            desk.card("      " + "1".repeat(66));
            boolean good = more <= 14;
            PROBE.due("66 and " + more, good ? 0 : Probe.STATE, desk.card("     1" + "2".repeat(more)));
            PROBE.due("the text", "1".repeat(66) + "2".repeat(good ? more : 0), desk.shown(0));
        }
        Desk desk = new Desk();
        desk.card("      X=1");
        for (int i = 0; i < 38; i++) {
            PROBE.due("two more", 0, desk.card("     1+1"));
        }
        PROBE.due("79 signs", 2, desk.ask().what(0));
        PROBE.due("two for one", Probe.STATE, desk.card("     1+1"));
        PROBE.due("the text has not changed", 2, desk.ask().what(0));
        PROBE.due("one for one", 0, desk.card("     11"));
        PROBE.due("80 signs", 2, desk.ask().what(0));
        PROBE.due("one for none", Probe.STATE, desk.card("     11"));
        PROBE.due("the last sign", '1', desk.ask().shown(0, 80 + 2 * 38 - 2));
        PROBE.due("the last bracket", ')', desk.ask().shown(0, 80 + 2 * 38 - 1));
        PROBE.due("no more", DeckFront.NONE, desk.ask().shown(0, 80 + 2 * 38));
        PROBE.due("the next has place for 80 again", 1, desk.card("      " + "1".repeat(66)));
        PROBE.due("the next has place for 80 again", 1, desk.card("     1" + "2".repeat(14)));
    }

    /** "texts of at most 80 characters" are texts "without the blanks outside of QUOTES". */
    private static void blanksInALongText() {
        Desk desk = new Desk();
        desk.card("      " + "1".repeat(66));
        PROBE.due("14 signs and 52 blanks", 0, desk.card("     1" + "2 ".repeat(14) + " ".repeat(38)));
        PROBE.due("66 blanks behind 80 signs", 0, desk.card("     1" + " ".repeat(66)));
        PROBE.due("no text behind 80 signs", 0, desk.card("     1"));
        PROBE.due("a sign and 65 blanks", Probe.STATE, desk.card("     1" + " ".repeat(65) + "3"));
        PROBE.due("the text", "1".repeat(66) + "2".repeat(14), desk.shown(0));
        Desk quoted = new Desk();
        quoted.card("      X='" + " ".repeat(63));
        PROBE.due("13 blanks in quotes and the quote", 0, quoted.card("     1" + " ".repeat(13) + "'  "));
        PROBE.due("the text", "X='" + " ".repeat(76) + "'", quoted.shown(0));
    }

    /** "begins one and .. the text would be too long": a card alone has 66 columns of text. */
    private static void oneCardIsNeverTooLong() {
        Desk desk = new Desk();
        PROBE.due("66 signs", 0, desk.card("      " + "A".repeat(66)));
        PROBE.due("the text", "A".repeat(66), desk.shown(0));
        PROBE.due("66 blanks in a quote that is open", 1, desk.card("      '" + " ".repeat(65)));
    }

    /** "The card joins the deck, and is empty then whatever comes of it". */
    private static void emptyWhateverComesOfIt() {
        String[] cards = {"      X=1", "     1+1", "C", "X", "1    1", "   "};
        int[] want = {0, 0, DeckFront.NONE, Probe.ARGUMENT, Probe.ARGUMENT, DeckFront.NONE};
        Desk desk = new Desk();
        for (int i = 0; i < cards.length; i++) {
            PROBE.due("card of '" + cards[i] + "'", want[i], desk.card(cards[i]));
            PROBE.due("an empty card behind it", DeckFront.NONE, desk.join());
            PROBE.due("72 columns behind it", true, desk.write(" ".repeat(72)));
            PROBE.due("and no more", false, desk.write(" "));
            PROBE.due("all blank", DeckFront.NONE, desk.join());
        }
        PROBE.due("continues nothing", Probe.STATE, new Desk().card("     1X=1"));
    }

    /** "IllegalArgumentException if its label field has something else than digits and blanks". */
    private static void wrongLabelField() {
        for (String columns : new String[] {"X", "    X", "1 2 X", "    X X=1", "1234X0X=1", "    -", "  '  X='",
            "A=1"}) {
            refused(new Desk(), Probe.ARGUMENT, columns);
            Desk desk = new Desk();
            desk.card("   10 X=A");
            refused(desk, Probe.ARGUMENT, columns);
            PROBE.due("the next begins behind it", 1, desk.card("   20 X=1"));
        }
        PROBE.due("the last column of the label field", 0, new Desk().card("    5 X=1"));
        PROBE.due("the column behind it", 0, new Desk().card("     0X=1"));
        PROBE.due("the first column of the text", 0, new Desk().card("      X=1"));
    }

    /** "or is not blank though it continues". */
    private static void labelOfAContinuation() {
        Desk desk = new Desk();
        desk.card("   10 X=A");
        for (int column = 1; column <= 5; column++) {
            String field = " ".repeat(column - 1) + "0" + " ".repeat(5 - column);
            refused(desk, Probe.ARGUMENT, field + "1+1");
        }
        refused(desk, Probe.ARGUMENT, "    X1+1");
        PROBE.due("blank, and continues", 0, desk.card("     1+1"));
        PROBE.due("the label stays", 10, desk.ask().label(0));
        PROBE.due("not blank, and begins", 1, desk.card("    00+1"));
    }

    /** "IllegalStateException if it continues and there is no statement". */
    private static void nothingToContinue() {
        Desk desk = new Desk();
        refused(desk, Probe.STATE, "     1X=1");
        refused(desk, Probe.STATE, "     1");
        desk.card("C");
        refused(desk, Probe.STATE, "     1X=1");
        desk.card("X");
        refused(desk, Probe.STATE, "     AX=1");
        PROBE.due("the first", 0, desk.card("      X"));
        PROBE.due("continues it", 0, desk.card("     1=1"));
        PROBE.due("joined", "X=1", desk.shown(0));
        desk.ask().clear();
        refused(desk, Probe.STATE, "     1+1");
    }

    /** "or begins one and there are 24". */
    private static void beyond24() {
        Desk desk = deckOf(24);
        refused(desk, Probe.STATE, "   99 X='");
        refused(desk, Probe.STATE, "1");
        PROBE.due("the last may go on", 23, desk.card("     1A = 1"));
        PROBE.due("outside of quotes", "A=1", desk.shown(23));
        desk.ask().clear();
        PROBE.due("there is place again", 0, desk.card("1"));
    }

    /** "or the text would be too long." */
    private static void tooLong() {
        Desk desk = new Desk();
        desk.card("   10 ABCDEF=" + "1".repeat(59));
        refused(desk, Probe.STATE, "     1" + "2".repeat(15));
        PROBE.due("what has place", 0, desk.card("     1" + "3".repeat(14)));
        PROBE.due("the text", "ABCDEF=" + "1".repeat(59) + "3".repeat(14), desk.shown(0));
    }

    /** "the deck stays": a quote is as open, or as closed, as before a card that was too long. */
    private static void tooLongInAQuote() {
        Desk open = new Desk();
        open.card("      X='" + "A".repeat(60));
        refused(open, Probe.STATE, "     1'" + "B".repeat(17));
        PROBE.due("in the quote still", 0, open.card("     1 B '"));
        PROBE.due("its blanks stay", "X='" + "A".repeat(60) + " B '", open.shown(0));
        Desk closed = new Desk();
        closed.card("      X=" + "1".repeat(64));
        refused(closed, Probe.STATE, "     1'" + "B".repeat(14));
        PROBE.due("outside of quotes still", 0, closed.card("     1 2 3 "));
        PROBE.due("its blanks go", "X=" + "1".repeat(64) + "23", closed.shown(0));
    }

    /** "(The one named first, if both hold; the deck stays.)" */
    private static void theOneNamedFirst() {
        refused(new Desk(), Probe.ARGUMENT, "1    1X=1");
        refused(new Desk(), Probe.ARGUMENT, "X    1X=1");
        Desk full = deckOf(24);
        refused(full, Probe.ARGUMENT, "X     X=1");
        Desk second = deckOf(24);
        refused(second, Probe.ARGUMENT, "1    1X=1");
        Desk longText = new Desk();
        longText.card("      " + "1".repeat(66));
        refused(longText, Probe.ARGUMENT, "1    1" + "2".repeat(15));
        PROBE.due("one alone: the label", Probe.ARGUMENT, longText.card("1    12"));
        PROBE.due("one alone: the length", Probe.STATE, longText.card("     1" + "2".repeat(15)));
        PROBE.due("neither", 0, longText.card("     12"));
    }

    /** "An empty deck (the card stays)." */
    private static void clearing() {
        Desk desk = new Desk();
        String nothing = desk.seen();
        desk.ask().clear();
        PROBE.due("an empty deck that was cleared", nothing, desk.seen());
        desk.card("   10 DIMENSION A(1)");
        desk.card("      X=F(1)");
        desk.write("   20 I=");
        desk.ask().clear();
        PROBE.due("the deck that was cleared", nothing, desk.seen());
        PROBE.due("more on the card", true, desk.write("1"));
        PROBE.due("the card that stayed", 0, desk.join());
        PROBE.due("its label", 20, desk.ask().label(0));
        PROBE.due("its text", "I=1", desk.shown(0));
        desk.write(" ".repeat(72));
        desk.ask().clear();
        PROBE.due("a full card stays full", false, desk.write(" "));
        Desk full = deckOf(24);
        full.ask().clear();
        PROBE.due("a full deck that was cleared", nothing, full.seen());
        for (int i = 0; i < 24; i++) {
            PROBE.due("statement " + i + " of the next deck", i, full.card("" + (200 + i)));
        }
        PROBE.due("the last label of the next deck", 223, full.ask().label(23));
        PROBE.due("one more", Probe.STATE, full.card("1"));
    }

    /** "How many statements there are." */
    private static void countOfStatements() {
        Desk desk = new Desk();
        for (int count = 0; count < 24; count++) {
            PROBE.due("statements()", count, desk.ask().statements());
            desk.card("1");
            desk.card("     1X");
            desk.card("C");
            desk.card("X");
        }
        PROBE.due("statements()", 24, desk.ask().statements());
        desk.card("1");
        PROBE.due("statements()", 24, desk.ask().statements());
        desk.ask().clear();
        PROBE.due("statements()", 0, desk.ask().statements());
    }

    /** "The label of a statement; 0 if it has none; NONE if there is no such one." */
    private static void labelsOfStatements() {
        Desk desk = new Desk();
        desk.card("00007 X=1");
        desk.card("      X=1");
        desk.card("99999 X=1");
        desk.card("00000 X=1");
        int[] want = {7, 0, 99999, 0};
        for (int i = 0; i < want.length; i++) {
            PROBE.due("label(" + i + ")", want[i], desk.ask().label(i));
        }
        noSuchOne(desk, 4);
        noSuchOne(new Desk(), 0);
        noSuchOne(deckOf(24), 24);
        PROBE.due("label(23) of 24", 123, deckOf(24).ask().label(23));
        desk.ask().clear();
        noSuchOne(desk, 0);
    }

    private static void noSuchOne(Desk desk, int count) {
        String before = desk.seen();
        for (int statement : new int[] {-1, count, count + 1, 24, 100, Integer.MIN_VALUE, Integer.MAX_VALUE}) {
            PROBE.due("label(" + statement + ") of " + count, DeckFront.NONE, desk.ask().label(statement));
            PROBE.due("what(" + statement + ") of " + count, DeckFront.NONE, desk.ask().what(statement));
            PROBE.due("shown(" + statement + ", 0) of " + count, DeckFront.NONE, desk.ask().shown(statement, 0));
        }
        PROBE.due("the deck behind these", before, desk.seen());
    }
}
