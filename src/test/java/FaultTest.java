/** Promises 11 and 12: the structure's first fault and where it is. */
public final class FaultTest {
    private static final Probe PROBE = new Probe();

    public static void main(String[] args) {
        PROBE.due("fault of nothing", 0, new DeckFront().fault());
        PROBE.due("faultAt of nothing", DeckFront.NONE, new DeckFront().faultAt());
        goodOnes();
        nones();
        labelsTwice();
        declarationsLate();
        branches();
        loopEnds();
        lostLabels();
        ends();
        orders();
        growing();
        PROBE.end();
    }

    private static void goodOnes() {
        PROBE.good("END");
        PROBE.good("10:END");
        PROBE.good("REAL X;DIMENSION A(1);INTEGER I;X=1;END");
        PROBE.good("IF(A)THEN;X=1;ELSEIF(B)THEN;X=2;ELSEIF(C)THEN;X=3;ELSE;X=4;ENDIF;END");
        PROBE.good("IF(A)THEN;IF(B)THEN;ELSE;ENDIF;ELSE;IF(B)THEN;ENDIF;ENDIF;END");
        PROBE.good("DO10I=1,2;X=1;10:CONTINUE;END");
        PROBE.good("DO10I=1,2;DO10J=1,2;DO10K=1,2;10:X=1;END");
        PROBE.good("DO20I=1,2;DO10J=1,2;10:CALL S;20:PRINT*,X;END");
        PROBE.good("DO10I=1,2;IF(A)THEN;DO20J=1,2;20:X=1;ENDIF;10:IF(A)STOP;END");
        PROBE.good("DO10I=1,2;10:IF(A)GOTO10;END");
        PROBE.good("IF(A)THEN;DO00010I=1,2;10:CONTINUE;ENDIF;END");
        PROBE.good("GOTO10;10:GOTO20;20:GOTO10;END");
        PROBE.good("GOTO(10,20),I;10:X=1;20:END");
        PROBE.good("10:GOTO10;IF(A)GOTO(10,00010)I;END");
        PROBE.good("0:X=1;0:X=2;X=3;END");
        PROBE.good("5:X=1;IF(A)THEN;10:ENDIF;7:END");
        PROBE.good("DO10I=1,2;10:CONTINUE;DO20I=1,2;20:CONTINUE;END");
        PROBE.good("DO10I=1,2;STOP;RETURN;GOTO10;10:X=1;END");
    }

    private static void nones() {
        PROBE.fault(1, 0, "ZZ");
        PROBE.fault(1, 1, "X=1;ZZ;END");
        PROBE.fault(1, 0, ";END");
        PROBE.fault(1, 2, "X=1;Y=2;X=");
    }

    private static void labelsTwice() {
        PROBE.fault(2, 1, "10:X=1;10:END");
        PROBE.fault(2, 2, "10:X=1;20:X=2;10:X=3;20:END");
        PROBE.fault(2, 2, "DO10I=1,2;10:CONTINUE;10:END");
        PROBE.fault(2, 1, "10:X=1;00010:X=2;END");
    }

    private static void declarationsLate() {
        PROBE.fault(3, 1, "X=1;REAL Y;END");
        PROBE.fault(3, 1, "X=1;DIMENSION Y(1);END");
        PROBE.fault(3, 2, "REAL Y;CONTINUE;DIMENSION Y(1);REAL Z;END");
        PROBE.fault(3, 1, "STOP;REAL Y");
    }

    private static void branches() {
        PROBE.fault(4, 0, "ELSE;END");
        PROBE.fault(4, 0, "ENDIF;END");
        PROBE.fault(4, 0, "ELSEIF(A)THEN;END");
        PROBE.fault(4, 2, "IF(A)THEN;ENDIF;ENDIF;END");
        PROBE.fault(4, 2, "IF(A)THEN;ELSE;ELSE;ENDIF;END");
        PROBE.fault(4, 2, "IF(A)THEN;ELSE;ELSEIF(A)THEN;ENDIF;END");
        PROBE.fault(4, 2, "IF(A)THEN;DO10I=1,2;ENDIF;10:CONTINUE;END");
        PROBE.fault(4, 2, "IF(A)THEN;DO10I=1,2;ELSE;10:CONTINUE;ENDIF;END");
        PROBE.fault(4, 2, "IF(A)THEN;DO10I=1,2;ELSEIF(A)THEN;10:CONTINUE;ENDIF;END");
        PROBE.fault(4, 1, "IF(A)STOP;ENDIF;END");
        PROBE.fault(4, 5, "IF(A)THEN;ELSE;IF(A)THEN;ENDIF;X=1;ELSE;ENDIF;END");
        PROBE.fault(4, 2, "DO10I=1,2;10:CONTINUE;ELSE;END");
    }

    private static void loopEnds() {
        String[] wrong = {"DO10J=1,2", "IF(A)THEN", "GOTO10", "RETURN", "STOP", "END", "GOTO(10)I"};
        for (String statement : wrong) {
            PROBE.fault(5, 1, "DO10I=1,2;10:" + statement + ";END");
        }
        String[] right = {"X=1", "IF(A)STOP", "CONTINUE", "CALL S", "PRINT*,X"};
        for (String statement : right) {
            PROBE.good("DO10I=1,2;10:" + statement + ";END");
        }
        PROBE.fault(5, 2, "DO10I=1,2;IF(A)THEN;10:CONTINUE;ENDIF;END");
        PROBE.fault(5, 2, "DO10I=1,2;DO20J=1,2;10:CONTINUE;20:CONTINUE;END");
        PROBE.fault(5, 2, "DO10I=1,2;IF(A)THEN;10:ELSE;ENDIF;END");
        PROBE.fault(5, 2, "DO10I=1,2;IF(A)THEN;10:ELSEIF(B)THEN;ENDIF;END");
        PROBE.fault(5, 2, "DO10I=1,2;IF(A)THEN;10:ENDIF;END");
        PROBE.fault(5, 4, "DO10I=1,2;DO20J=1,2;DO10K=1,2;X=1;10:STOP;20:X=1;END");
        PROBE.fault(5, 4, "DO10I=1,2;DO20J=1,2;DO10K=1,2;10:X=1;20:STOP;END");
        // The label ends the inner loop of it alone: the outer one stands behind another.
        PROBE.fault(8, 5, "DO10I=1,2;DO20J=1,2;DO10K=1,2;10:X=1;20:X=1;END");
    }

    private static void lostLabels() {
        PROBE.fault(6, 0, "DO10I=1,2;END");
        PROBE.fault(6, 1, "10:X=1;DO10I=1,2;END");
        PROBE.fault(6, 0, "10:DO10I=1,2;END");
        PROBE.fault(6, 0, "DO0I=1,2;0:CONTINUE;END");
        PROBE.fault(6, 0, "GOTO10;END");
        PROBE.fault(6, 0, "GOTO0;0:END");
        PROBE.fault(6, 1, "10:X=1;GOTO(10,20),I;END");
        PROBE.fault(6, 0, "GOTO(20,10),I;10:X=1;END");
        PROBE.fault(6, 0, "IF(A)GOTO10;END");
        PROBE.fault(6, 1, "10:X=1;IF(A)GOTO(10,20)I;END");
        PROBE.fault(6, 1, "10:X=1;GOTO100;END");
        PROBE.good("DIMENSION A(10);X=20;END");
        // A statement that is none has its label all the same.
        PROBE.fault(1, 1, "GOTO10;10:ZZ;END");
    }

    private static void ends() {
        PROBE.fault(7, 0, "END;END");
        PROBE.fault(7, 0, "X=1");
        PROBE.fault(7, 1, "X=1;Y=1");
        PROBE.fault(7, 0, "IF(A)THEN");
        PROBE.fault(7, 1, "X=1;END;X=2;END");
        PROBE.fault(8, 1, "IF(A)THEN;END");
        PROBE.fault(8, 2, "IF(A)THEN;ELSE;END");
        PROBE.fault(8, 3, "IF(A)THEN;IF(A)THEN;ENDIF;END");
    }

    private static void orders() {
        PROBE.fault(2, 1, "10:X=1;10:REAL X;END");
        PROBE.fault(3, 1, "X=1;REAL X");
        PROBE.fault(4, 1, "10:X=1;ELSE");
        PROBE.fault(2, 2, "DO10I=1,2;10:X=1;10:STOP;END");
        PROBE.fault(3, 1, "DO10I=1,2;10:REAL X;END");
        PROBE.fault(4, 1, "DO10I=1,2;10:ELSE;END");
        PROBE.fault(5, 1, "DO10I=1,2;10:GOTO99;END");
        PROBE.fault(5, 1, "DO10I=1,2;10:END");
        PROBE.fault(6, 0, "GOTO10");
        PROBE.fault(7, 1, "IF(A)THEN;END;X=1");
        // The first statement that has one counts, not the smallest fault.
        PROBE.fault(6, 0, "GOTO10;ZZ");
        PROBE.fault(4, 0, "ELSE;10:X=1;10:X=1;END");
    }

    /** The most that can be open, and a deck that changes. */
    private static void growing() {
        StringBuilder deep = new StringBuilder();
        for (int i = 0; i < 23; i++) {
            deep.append("IF(A)THEN;");
        }
        PROBE.fault(8, 23, deep + "END");
        PROBE.fault(7, 23, deep + "IF(A)THEN");
        DeckFront deck = Probe.deck("DO10I=1,2");
        PROBE.due("fault() of a DO alone", 6, deck.fault());
        Probe.add(deck, "10:CONTINUE");
        PROBE.due("fault() without an END", 7, deck.fault());
        PROBE.due("faultAt() without an END", 1, deck.faultAt());
        Probe.add(deck, "END");
        PROBE.due("fault() of the whole", 0, deck.fault());
        Probe.card(deck, "     1X");
        PROBE.due("fault() when the END is none", 1, deck.fault());
        PROBE.due("faultAt() when the END is none", 2, deck.faultAt());
        DeckFront branch = Probe.deck("IF(A)THEN", "X=1");
        PROBE.due("fault() in an IF THEN", 7, branch.fault());
        Probe.add(branch, "ENDIF");
        PROBE.due("fault() behind it", 7, branch.fault());
        PROBE.due("faultAt() behind it", 2, branch.faultAt());
        Probe.add(branch, "END");
        PROBE.due("fault() at its END", 0, branch.fault());
        deck.clear();
        PROBE.due("fault() when cleared", 0, deck.fault());
    }
}
