/** The boundaries of names: the sentences of 'Terms' on kinds and types, and promises 9 and 10. */
public final class NameEdgeTest {
    private static final Probe PROBE = new Probe();

    public static void main(String[] args) {
        kindsAndPlaces();
        theFirstKindCounts();
        statementsThatAreNone();
        standsNowhere();
        noNames();
        bytesOfANumber();
        typesByLetter();
        theFirstThatNamesIt();
        namesInFullTexts();
        askingChangesNothing();
        PROBE.end();
    }

    private static void kind(int want, String name, String... statements) {
        DeckFront deck = Probe.deck(statements);
        PROBE.due("kind of " + name + " in " + String.join(";", statements), want, deck.kind(Probe.word(name)));
    }

    private static void type(int want, String name, String... statements) {
        DeckFront deck = Probe.deck(statements);
        PROBE.due("type of " + name + " in " + String.join(";", statements), want, deck.type(Probe.word(name)));
    }

    /** "1 ARRAY, if it stands in a 16. 2 PROCEDURE, .. 3 FUNCTION, .. 4 VARIABLE, if it stands anywhere else." */
    private static void kindsAndPlaces() {
        kind(1, "A", "DIMENSIONA(1)");
        kind(1, "A", "DIMENSIONB(1),A(2)");
        kind(2, "A", "CALLA");
        kind(2, "A", "CALLA(1)");
        kind(2, "A", "IF(X)CALLA");
        kind(2, "A", "IF(X)CALLA(1)");
        for (String place : new String[] {"X=A()", "X=A(1)", "X=1+(-A(1))", "X(A(1))=1", "CALLS(A(1))", "PRINT*,1,A(1)",
            "IF(A(1))THEN", "ELSEIF(A())THEN", "IF(A(1))STOP", "IF(X)Y=A(1)", "DO1I=1,A(1)", "GOTO(1)A(1)",
            "X=F(A())"}) {
            kind(3, "A", place);
            kind(4, "A", place.replace("A(1)", "A").replace("A()", "A"));
        }
        kind(3, "A", "A(1)=2");
        kind(4, "A", "A=2");
        kind(3, "A", "IF(X)A(1)=2");
        kind(4, "A", "IF(X)A=2");
        for (String place : new String[] {"REALA", "INTEGERX,A", "LOGICALA,X", "DO1A=1,2", "DO1,A=1,2", "X=A*(1)",
            "X=(A)", "X=F(A)", "CALLS(A)"}) {
            kind(4, "A", place);
        }
        kind(0, "A", "X='A'", "PRINT*,'A(1)','=A'", "STOP");
    }

    /** "else 3 FUNCTION, if .., and is no array; else 4 VARIABLE": every pair of places, in both orders. */
    private static void theFirstKindCounts() {
        String[] places = {"DIMENSIONA(1)", "CALLA", "X=A(1)", "A=1"};
        for (int one = 0; one < 4; one++) {
            for (int other = 0; other < 4; other++) {
                kind(Math.min(one, other) + 1, "A", places[one], places[other]);
            }
        }
        kind(3, "A", "A(1)=2", "REALA");
        kind(1, "A", "A(1)=2", "DIMENSIONA(1)");
        kind(2, "A", "A(1)=A", "CALLA(A(1))");
        kind(3, "A", "A=A(1)");
        kind(3, "A", "A=A+A(A)");
        kind(2, "A", "IF(A(1))CALLA(A)");
        kind(1, "A", "REALA", "CALLA", "X=A(1)", "A=1", "DIMENSIONB(1),A(2)");
    }

    /** "seen over all statements of the deck but those that are NONE". */
    private static void statementsThatAreNone() {
        kind(0, "A", "DIMENSIONA(1),");
        kind(0, "A", "CALLA()");
        kind(0, "A", "X=A(1)+");
        kind(0, "A", "A");
        kind(0, "A", "IF(A)END");
        kind(4, "A", "DIMENSIONA(1),", "CALLA()", "X=A(1)+", "A=1");
        type(2, "A", "INTEGERA,");
        type(3, "A", "INTEGERA,", "LOGICALA");
        Desk desk = new Desk();
        desk.card("      A=F(1)");
        PROBE.due("kind before it is none", 4, desk.ask().kind('A'));
        desk.card("     1)");
        PROBE.due("kind when it is none", 0, desk.ask().kind('A'));
        PROBE.due("kind when it is none", 0, desk.ask().kind('F'));
        StringBuilder last = new StringBuilder();
        for (int i = 0; i < 23; i++) {
            last.append("X=1;");
        }
        kind(1, "A", (last + "DIMENSIONA(1)").split(";"));
        type(1, "A", (last + "INTEGERA").split(";"));
    }

    /** "0 if it is no name, or stands nowhere in the deck." */
    private static void standsNowhere() {
        kind(0, "A");
        kind(0, "A", "X=1");
        kind(4, "X", "X=1");
        kind(4, "ABCDEF", "ABCDEF=1");
        for (String part : new String[] {"ABCDE", "BCDEF", "A", "F", "ABCDEG"}) {
            kind(0, part, "ABCDEF=1");
        }
        kind(0, "AB", "A=B");
        kind(0, "A", "AB=1", "CALLAB", "X=AB(1)", "REALAB", "DIMENSIONAB(1)", "DO1AB=1,2");
        String words = "DO IF THEN ELSE ELSEIF ENDIF GOTO CALL RETURN STOP PRINT END REAL OR AND NOT LT TRUE E5 E";
        for (String word : words.split(" ")) {
            kind(0, word, "DO1I=1,2", "IF(A)THEN", "ELSEIF(A)THEN", "ELSE", "ENDIF", "GOTO1", "CALLS", "IF(A)RETURN",
                    "STOP", "PRINT*,A.OR.B.AND..NOT.C.LT.D", "REALX", "X=.TRUE..OR..FALSE.", "X=1E5+2.E5", "GOTO(1)I",
                    "END");
        }
        // A name stands where it stands, whatever the same signs are elsewhere in the statement.
        kind(4, "A", "A=BA");
        kind(4, "A", "BA=A");
        kind(4, "E5", "E5=1E5+X");
        kind(4, "OR", "OR=A.OR.B");
        kind(4, "THEN", "IF(THEN)THEN");
        kind(3, "STOP", "IF(STOP(1))STOP");
        kind(4, "A", "A='A'");
        Desk desk = new Desk();
        desk.card("      A=1");
        desk.ask().clear();
        PROBE.due("kind in a deck that was cleared", 0, desk.ask().kind('A'));
    }

    /** "0 if it is no name": a letter and up to 5 letters or digits. */
    private static void noNames() {
        String[] names = {"A", "Z", "A9", "A0", "ABCDEF", "Z99999", "ABCDE1"};
        String[] wrong = {"", "0", "9", "1A", "9ABCDE", "ABCDEFG", "A123456", "ABCDEFGH", "@", "[", "a", "z", "A@",
            "A[", "A/", "A:", "A ", " A", "A B", "A.", "A'", "A(", "ABCDE(", "A\u0001", "A\u0080", "A\u00c1", "\u00c1"};
        for (String name : names) {
            kind(4, name, name + "=1");
            type(2, name);
            type(3, name, "LOGICAL" + name);
        }
        for (String name : wrong) {
            kind(0, name, "A=1", "Z=A", "ABCDEF=1", "X='A B'");
            type(0, name, "LOGICALA,Z,ABCDEF");
            type(0, name);
        }
        DeckFront deck = Probe.deck("A=1");
        for (long w : new long[] {0, -1, Long.MIN_VALUE, Long.MAX_VALUE, 1, 255}) {
            PROBE.due("kind(" + w + ")", 0, deck.kind(w));
            PROBE.due("type(" + w + ")", 0, deck.type(w));
        }
    }

    /** "whose characters are the bytes of w that are not 0, from the highest on". */
    private static void bytesOfANumber() {
        DeckFront deck = Probe.deck("AB=1", "LOGICALAB", "I1=1", "ABCDEF=1");
        for (long w : new long[] {0x4142L, 0x4142000000000000L, 0x4100000000000042L, 0x0000410000420000L,
                0x0041420000000000L}) {
            PROBE.due("kind(" + w + ")", 4, deck.kind(w));
            PROBE.due("type(" + w + ")", 3, deck.type(w));
        }
        PROBE.due("the other way round", 0, deck.kind(0x4241L));
        PROBE.due("the other way round", 2, deck.type(0x4241L));
        PROBE.due("I1 with zeros", 4, deck.kind(0x4900310000000000L));
        PROBE.due("six, high", 4, deck.kind(0x4142434445460000L));
        PROBE.due("six, low", 4, deck.kind(0x0000414243444546L));
        PROBE.due("six, apart", 4, deck.kind(0x4142430000444546L));
        PROBE.due("seven", 0, deck.kind(0x4142434445464700L));
        PROBE.due("seven", 0, deck.type(0x0041424344454647L));
    }

    /** "else 1 for I .. N, 2 for others." */
    private static void typesByLetter() {
        for (char letter = 'A'; letter <= 'Z'; letter++) {
            int want = "IJKLMN".indexOf(letter) >= 0 ? 1 : 2;
            for (String rest : new String[] {"", "I", "A", "0", "IIIII", "AAAAA", "99999"}) {
                type(want, letter + rest);
                type(want, letter + rest, letter + rest + "=1", "DIMENSION" + letter + rest + "(1)",
                        "CALL" + letter + rest);
            }
        }
    }

    /** "1 INTEGER, 2 REAL, 3 LOGICAL, as the first 15 that names it tells". */
    private static void theFirstThatNamesIt() {
        String[] words = {"INTEGER", "REAL", "LOGICAL"};
        for (int one = 0; one < 3; one++) {
            for (int other = 0; other < 3; other++) {
                type(one + 1, "A", words[one] + "A", words[other] + "A");
                type(one + 1, "I", words[one] + "X,I", words[other] + "I,X");
                type(one + 1, "I", words[other] + "X", words[one] + "I");
            }
            type(one + 1, "ABCDEF", "X=1", words[one] + "X,ABCDEF,Y");
            type(2, "ABCDE", words[one] + "ABCDEF");
            type(1, "LOGICA", words[one] + "A");
            type(one + 1, "REAL", words[one] + "REAL");
        }
    }

    /** "texts of at most 80 characters": a name that ends with a full text. */
    private static void namesInFullTexts() {
        for (String name : new String[] {"A", "AB", "ABCDEF"}) {
            String sum = "X=" + "1".repeat(77 - name.length()) + "+" + name;
            PROBE.due("signs of " + sum, 80, sum.length());
            kind(4, name, sum);
            kind(0, "ABC", sum);
        }
        String[] types = {"B,".repeat(36) + "A", "B,".repeat(34) + "CD,AB", "B,".repeat(32) + "CD,ABCDEF"};
        for (String names : types) {
            String last = names.substring(names.lastIndexOf(',') + 1);
            PROBE.due("signs of " + names, 80, "LOGICAL".length() + names.length());
            kind(4, last, "LOGICAL" + names);
            type(3, last, "LOGICAL" + names);
        }
        kind(4, "X", "X=" + "1".repeat(78));
        kind(0, "X", "X=" + "1".repeat(77) + "+");
        kind(3, "F", "X=" + "1".repeat(74) + "+F()");
        kind(2, "S", "IF(" + "1".repeat(71) + ")CALLS");
        kind(1, "A", "DIMENSION" + "B(1),".repeat(13) + "A(123)");
    }

    /** "0 if it is no name": a call that answers 0 changes nothing. */
    private static void askingChangesNothing() {
        Desk desk = new Desk();
        desk.card("      INTEGER A");
        desk.card("   10 X=F(1)");
        desk.write("   20 I=");
        String before = desk.seen();
        for (String word : new String[] {"", "1", "ABCDEFG", "a", "B", "X", "A"}) {
            desk.ask().kind(Probe.word(word));
            desk.ask().type(Probe.word(word));
        }
        PROBE.due("the deck behind these", before, desk.seen());
        desk.write("1");
        PROBE.due("the card behind these", 2, desk.join());
        PROBE.due("its text", "I=1", desk.shown(2));
    }
}
