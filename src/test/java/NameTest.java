/** Promises 9 and 10: kinds and types of names. */
public final class NameTest {
    private static final Probe PROBE = new Probe();
    private static final String[] NO_NAMES = {"", "1", "1A", "ABCDEFG", "ABCDEFGH", "A B", " A", "A ", "A.", "a",
        "A\u00ff", "A'", "(", "ABCDEF1"};

    private static void kind(DeckFront deck, String name, int want) {
        PROBE.due("kind of " + name, want, deck.kind(Probe.word(name)));
    }

    private static void type(DeckFront deck, String name, int want) {
        PROBE.due("type of " + name, want, deck.type(Probe.word(name)));
    }

    public static void main(String[] args) {
        kinds();
        kindsThatCompete();
        places();
        noNames();
        types();
        PROBE.end();
    }

    private static void kinds() {
        DeckFront deck = Probe.deck("REAL T", "DIMENSION A(3),B2(4)", "X=A(1)+F(Y)*G()", "H(Z)='Q'", "CALL S(U,P(V))",
                "IF(W)CALL R", "DO10I=J,K,L", "10:PRINT*,M,.TRUE.,1E5", "GOTO(10),N");
        for (String name : "A B2".split(" ")) {
            kind(deck, name, 1);
        }
        for (String name : "S R".split(" ")) {
            kind(deck, name, 2);
        }
        for (String name : "F G H P".split(" ")) {
            kind(deck, name, 3);
        }
        for (String name : "T X Y Z U V W I J K L M N".split(" ")) {
            kind(deck, name, 4);
        }
        for (String name : "Q B REAL DO IF CALL GOTO PRINT TRUE E5 E O C ABCDEF DO10I XY".split(" ")) {
            kind(deck, name, 0);
        }
    }

    private static void kindsThatCompete() {
        DeckFront deck = Probe.deck("X=A(1)", "A(2)=3", "CALL F(1)", "Y=F(2)+F", "G=1", "Z=G(1)", "V=C+V(1)", "CALL C",
                "DIMENSION A(3)", "CALL D", "DIMENSION D(1)");
        kind(deck, "A", 1);
        kind(deck, "F", 2);
        kind(deck, "G", 3);
        kind(deck, "V", 3);
        kind(deck, "C", 2);
        kind(deck, "D", 1);
        kind(deck, "X", 4);

        DeckFront none = Probe.deck("DIMENSION A(1),B", "CALL C()", "D=E(1)+", "IF(F)ELSE");
        for (String name : "A B C D E F".split(" ")) {
            kind(none, name, 0);
        }
        Probe.card(none, "     1X=1");
        kind(none, "F", 4);
        kind(none, "ELSEX", 4);
    }

    private static void places() {
        DeckFront deck = Probe.deck("ABCDEF=AB+A.OR.AB1(X)");
        kind(deck, "ABCDEF", 4);
        kind(deck, "ABCDE", 0);
        kind(deck, "AB", 4);
        kind(deck, "A", 4);
        kind(deck, "B", 0);
        kind(deck, "AB1", 3);
        kind(deck, "OR", 0);
        PROBE.due("zeros between", 4, deck.kind(0x4100000042000000L));
        PROBE.due("zeros behind", 4, deck.kind(0x4142000000000000L));
        PROBE.due("type with zeros between", 1, deck.type(0x0049000000420000L));
        deck.clear();
        kind(deck, "AB", 0);
    }

    private static void noNames() {
        DeckFront deck = Probe.deck("A=ABCDEF+1");
        for (String word : NO_NAMES) {
            kind(deck, word, 0);
            type(deck, word, 0);
        }
        PROBE.due("kind(-1)", 0, deck.kind(-1));
        PROBE.due("type(-1)", 0, deck.type(-1));
        PROBE.due("type of the least", 0, deck.type(Long.MIN_VALUE));
    }

    private static void types() {
        DeckFront deck = Probe.deck("INTEGER X,A1", "REAL I,X,J", "LOGICAL J,L,Y", "LOGICAL K,", "N=1");
        type(deck, "X", 1);
        type(deck, "A1", 1);
        type(deck, "I", 2);
        type(deck, "J", 2);
        type(deck, "L", 3);
        type(deck, "Y", 3);
        type(deck, "K", 1);
        type(deck, "N", 1);
        for (char letter = 'A'; letter <= 'Z'; letter++) {
            int want = letter >= 'I' && letter <= 'N' ? 1 : 2;
            type(new DeckFront(), String.valueOf(letter), want);
            type(new DeckFront(), letter + "ABCD9", want);
            type(new DeckFront(), letter + "I", want);
        }
        DeckFront late = Probe.deck("X=1", "LOGICAL X", "INTEGER INTEGE");
        type(late, "X", 3);
        type(late, "INTEGE", 1);
        kind(late, "INTEGE", 4);
        late.clear();
        type(late, "X", 2);
    }
}
