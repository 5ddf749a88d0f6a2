/** The boundaries of the structure: the sentences of 'Terms' on faults and their order, and promises 11 and 12. */
public final class StructureEdgeTest {
    private static final Probe PROBE = new Probe();

    /** A statement of each kind, 0 to 17; those with digits have 99. */
    private static final String[] STATEMENTS = {"ZZ", "DO99J=1,2", "X=1", "IF(A)THEN", "IF(A)X=1", "ELSEIF(A)THEN",
        "ELSE", "ENDIF", "CONTINUE", "GOTO99", "CALLS", "RETURN", "STOP", "PRINT*,X", "END", "REALX", "DIMENSIONX(1)",
        "GOTO(99)I"};

    public static void main(String[] args) {
        emptyDeck();
        none();
        labelTwice();
        declarationBehindOthers();
        branchWithoutIfThen();
        hadItsElse();
        labelOfAnOpenLoop();
        whatMayEndALoop();
        theNextOnesToo();
        lostLabels();
        labelOfALoopBehindIt();
        labelsInAnIf();
        zeroIsNoLabel();
        endAndLast();
        somethingOpen();
        inThisOrder();
        theFirstStatementCounts();
        mostStatements();
        fullTexts();
        askingChangesNothing();
        PROBE.end();
    }

    /** "An empty deck has no fault." */
    private static void emptyDeck() {
        Desk desk = new Desk();
        PROBE.due("fault()", 0, desk.ask().fault());
        PROBE.due("faultAt()", DeckFront.NONE, desk.ask().faultAt());
        desk.card("C");
        PROBE.due("fault() behind a comment", 0, desk.ask().fault());
        desk.card("     0");
        PROBE.due("fault() of one without a text", 1, desk.ask().fault());
        PROBE.due("faultAt() of one without a text", 0, desk.ask().faultAt());
        desk.ask().clear();
        PROBE.due("fault() when cleared", 0, desk.ask().fault());
        PROBE.due("faultAt() when cleared", DeckFront.NONE, desk.ask().faultAt());
        PROBE.good("END");
    }

    /** "1 it is NONE." */
    private static void none() {
        PROBE.fault(1, 0, "ZZ;END");
        PROBE.good("ZZ=1;END");
        PROBE.fault(1, 1, "X=1;X=;END");
        PROBE.fault(1, 2, "X=1;X=2;E");
    }

    /** "2 it has a label that one before it has." */
    private static void labelTwice() {
        PROBE.fault(2, 1, "10:X=1;10:END");
        PROBE.good("10:X=1;11:END");
        PROBE.good("10:X=1;1:END");
        PROBE.fault(2, 1, "10:X=1;00010:END");
        PROBE.fault(2, 1, "1 0:X=1;10:END");
        PROBE.good("99999:X=1;9999:X=2;END");
        PROBE.fault(2, 3, "10:X=1;20:X=1;30:X=1;10:X=1;END");
        PROBE.fault(2, 3, "10:X=1;20:X=1;30:X=1;30:X=1;END");
        // No label is none that two can have.
        PROBE.good("X=1;X=2;0:X=3;00:X=4;END");
    }

    /** "3 it is 15 or 16 and one before it is neither." */
    private static void declarationBehindOthers() {
        String[] before = {"X=1", "CONTINUE", "PRINT*,X", "CALLS", "STOP", "RETURN", "IF(A)X=1"};
        for (String statement : before) {
            PROBE.fault(3, 1, statement + ";REALX;END");
            PROBE.fault(3, 1, statement + ";DIMENSIONX(1);END");
            PROBE.fault(3, 2, "REALX;" + statement + ";REALX;END");
            PROBE.good("REALX;DIMENSIONX(1);" + statement + ";END");
        }
        PROBE.good("DIMENSIONX(1);REALX;INTEGERY;LOGICALZ;DIMENSIONY(1);END");
        PROBE.fault(3, 2, "REALX;X=1;REALX;REALX;END");
        PROBE.fault(3, 1, "IF(A)THEN;REALX;ENDIF;END");
    }

    /** "4 it is 5, 6 or 7 and the innermost that is open is no IF THEN". */
    private static void branchWithoutIfThen() {
        for (String branch : new String[] {"ELSEIF(A)THEN", "ELSE", "ENDIF"}) {
            String rest = branch.equals("ENDIF") ? ";END" : ";ENDIF;END";
            PROBE.fault(4, 0, branch + rest);
            PROBE.good("IF(A)THEN;" + branch + rest);
            PROBE.good("IF(A)THEN;IF(A)THEN;ENDIF;" + branch + rest);
            PROBE.good("IF(A)THEN;IF(A)STOP;" + branch + rest);
            PROBE.fault(4, 2, "IF(A)THEN;ENDIF;" + branch + rest);
            PROBE.fault(4, 1, "IF(A)STOP;" + branch + rest);
            PROBE.fault(4, 2, "IF(A)THEN;DO10I=1,2;" + branch + ";10:X=1" + rest);
            PROBE.good("IF(A)THEN;DO10I=1,2;10:X=1;" + branch + rest);
            PROBE.fault(4, 1, "DO10I=1,2;" + branch + ";10:X=1" + rest);
        }
    }

    /** "(or, for 5 and 6, has had its ELSE)." */
    private static void hadItsElse() {
        PROBE.fault(4, 2, "IF(A)THEN;ELSE;ELSE;ENDIF;END");
        PROBE.fault(4, 2, "IF(A)THEN;ELSE;ELSEIF(A)THEN;ENDIF;END");
        PROBE.good("IF(A)THEN;ELSE;ENDIF;END");
        PROBE.good("IF(A)THEN;ELSEIF(A)THEN;ELSEIF(A)THEN;ELSE;ENDIF;END");
        // An ELSE is had by the innermost alone.
        PROBE.good("IF(A)THEN;ELSE;IF(A)THEN;ELSE;ENDIF;ENDIF;END");
        PROBE.good("IF(A)THEN;IF(A)THEN;ELSE;ENDIF;ELSE;ENDIF;END");
        PROBE.fault(4, 4, "IF(A)THEN;ELSE;IF(A)THEN;ENDIF;ELSE;ENDIF;END");
        PROBE.fault(4, 4, "IF(A)THEN;ELSE;IF(A)THEN;ENDIF;ELSEIF(A)THEN;ENDIF;END");
        PROBE.good("IF(A)THEN;ELSE;ENDIF;IF(A)THEN;ELSE;ENDIF;END");
        PROBE.good("IF(A)THEN;ELSE;DO10I=1,2;10:X=1;ENDIF;END");
    }

    /** "5 its label is the digits of a DO that is open, but the innermost that is open is no DO with these digits". */
    private static void labelOfAnOpenLoop() {
        PROBE.good("DO10I=1,2;10:X=1;END");
        PROBE.good("DO10I=1,2;11:X=1;10:X=1;END");
        PROBE.fault(5, 2, "DO10I=1,2;IF(A)THEN;10:X=1;ENDIF;END");
        PROBE.good("DO10I=1,2;IF(A)THEN;ENDIF;10:X=1;END");
        PROBE.fault(5, 2, "DO10I=1,2;DO20J=1,2;10:X=1;20:X=1;END");
        PROBE.good("DO10I=1,2;DO20J=1,2;20:X=1;10:X=1;END");
        PROBE.fault(5, 3, "DO10I=1,2;DO10J=1,2;IF(A)THEN;10:X=1;ENDIF;END");
        PROBE.fault(5, 3, "DO10I=1,2;DO20J=1,2;DO30K=1,2;10:X=1;20:X=1;30:X=1;END");
        PROBE.good("DO00010I=1,2;1 0:X=1;END");
        // A DO that has ended is not open: its label alone is a fault of another kind.
        PROBE.fault(2, 2, "DO10I=1,2;10:X=1;10:STOP;END");
    }

    /** "or it is 1, 3, 5, 6, 7, 9, 11, 12, 14 or 17 (otherwise it ENDS that DO ..)". */
    private static void whatMayEndALoop() {
        int[] want = {1, 5, 0, 5, 0, 4, 4, 4, 0, 5, 0, 5, 5, 0, 5, 3, 3, 5};
        for (int what = 0; what <= 17; what++) {
            String program = "DO10I=1,2;10:" + STATEMENTS[what] + ";99:CONTINUE;END";
            PROBE.fault(want[what], want[what] == 0 ? DeckFront.NONE : 1, program);
        }
        // A branch that fits its IF THEN has the label of a DO outside of it.
        for (int what = 5; what <= 7; what++) {
            PROBE.fault(5, 2, "DO10I=1,2;IF(A)THEN;10:" + STATEMENTS[what] + ";ENDIF;END");
        }
        for (String statement : new String[] {"IF(A)GOTO10", "IF(A)STOP", "IF(A)RETURN", "IF(A)GOTO(10)I",
            "IF(A)CALLS"}) {
            PROBE.good("DO10I=1,2;10:" + statement + ";END");
        }
        // The same statements under a label of no open DO.
        PROBE.good("DO10I=1,2;20:STOP;30:RETURN;40:GOTO20;50:GOTO(20)I;60:IF(A)THEN;70:ELSE;80:ENDIF;10:X=1;90:END");
    }

    /** "and the next ones, as long as the innermost has these digits". */
    private static void theNextOnesToo() {
        PROBE.good("DO10I=1,2;DO10J=1,2;10:X=1;END");
        PROBE.good("DO10I=1,2;DO10J=1,2;DO10K=1,2;DO10L=1,2;10:X=1;END");
        PROBE.good("DO20I=1,2;DO10J=1,2;DO10K=1,2;10:X=1;20:X=1;END");
        PROBE.fault(8, 5, "DO10I=1,2;DO20J=1,2;DO10K=1,2;10:X=1;20:X=1;END");
        PROBE.fault(8, 5, "DO10I=1,2;IF(A)THEN;DO10K=1,2;10:X=1;ENDIF;END");
        PROBE.fault(8, 3, "IF(A)THEN;DO10I=1,2;10:X=1;END");
        PROBE.good("IF(A)THEN;DO10I=1,2;DO10J=1,2;10:X=1;ELSE;ENDIF;END");
    }

    /** "6 its digits (of 1: as a label; of 9, of 17, ..) are no statement's label". */
    private static void lostLabels() {
        PROBE.fault(6, 0, "GOTO10;END");
        PROBE.good("GOTO10;10:END");
        PROBE.good("10:X=1;GOTO10;END");
        PROBE.good("10:GOTO10;END");
        PROBE.good("GOTO00010;10:END");
        PROBE.fault(6, 0, "GOTO1;10:END");
        PROBE.fault(6, 0, "GOTO100;10:END");
        PROBE.fault(6, 0, "GOTO99999;9999:END");
        PROBE.good("GOTO99999;99999:END");
        PROBE.fault(6, 0, "GOTO(10)I;END");
        PROBE.good("GOTO(10)I;10:END");
        PROBE.fault(6, 0, "GOTO(10,20)I;10:END");
        PROBE.fault(6, 0, "GOTO(20,10)I;10:END");
        PROBE.fault(6, 1, "10:X=1;GOTO(10,20,30)I;30:END");
        PROBE.good("10:X=1;GOTO(10,020,30,10)I;20:X=1;30:END");
        // Only these digits are labels.
        PROBE.good("DIMENSIONA(77);A(77)=77;PRINT*,77;CALLS(77);END");
        PROBE.good("GOTO(10)77;10:END");
        PROBE.good("IF(77)THEN;ENDIF;IF(77)X=77;END");
    }

    /** "(for 1, of none behind it)". */
    private static void labelOfALoopBehindIt() {
        PROBE.fault(6, 0, "DO10I=1,2;END");
        PROBE.fault(6, 1, "10:X=1;DO10I=1,2;END");
        PROBE.fault(6, 0, "10:DO10I=1,2;END");
        PROBE.good("DO10I=1,2;10:X=1;END");
        PROBE.good("20:DO10I=1,2;10:X=1;GOTO20;END");
        PROBE.fault(6, 2, "DO10I=1,2;10:X=1;DO10I=1,2;END");
        PROBE.fault(6, 0, "DO10I=1,2;100:X=1;1:X=1;END");
        // The digits of the DO count, not those of its expressions.
        PROBE.good("DO10I=77,78,79;10:X=1;END");
    }

    /** "or of a 9 or 17 in an IF". */
    private static void labelsInAnIf() {
        PROBE.fault(6, 0, "IF(A)GOTO10;END");
        PROBE.good("IF(A)GOTO10;10:END");
        PROBE.good("10:IF(A)GOTO10;END");
        PROBE.fault(6, 0, "IF(A)GOTO(10,20)I;10:END");
        PROBE.good("IF(A)GOTO(10,20)I;10:X=1;20:END");
        PROBE.fault(6, 1, "DO10I=1,2;10:IF(A)GOTO11;END");
    }

    /** "(0 or no digits: none)": no statement has the label 0. */
    private static void zeroIsNoLabel() {
        PROBE.fault(6, 0, "GOTO0;END");
        PROBE.fault(6, 0, "GOTO00000;0:END");
        PROBE.fault(6, 1, "10:X=1;GOTO(10,0)I;END");
        PROBE.fault(6, 0, "IF(A)GOTO0;0:END");
        PROBE.fault(6, 0, "DO0I=1,2;0:X=1;END");
        PROBE.good("GOTO1;00001:END");
    }

    /** "7 it is 14 and not the last, or the last and not 14." */
    private static void endAndLast() {
        PROBE.good("END");
        PROBE.good("X=1;END");
        PROBE.fault(7, 0, "END;END");
        PROBE.fault(7, 0, "END;X=1");
        PROBE.fault(7, 1, "X=1;END;END");
        PROBE.fault(7, 0, "X=1");
        PROBE.fault(7, 1, "X=1;X=2");
        int[] alone = {1, 6, 7, 7, 7, 4, 4, 4, 7, 6, 7, 7, 7, 7, 0, 7, 7, 6};
        for (int what = 0; what <= 17; what++) {
            PROBE.fault(alone[what], alone[what] == 0 ? DeckFront.NONE : 0, STATEMENTS[what]);
        }
        PROBE.fault(7, 2, "DO10I=1,2;X=1;10:X=2");
        PROBE.fault(7, 1, "IF(A)THEN;ENDIF");
    }

    /** "8 it is 14 and something is open." "1 and 3 OPEN; .. 7 ends its IF THEN." */
    private static void somethingOpen() {
        PROBE.fault(8, 1, "IF(A)THEN;END");
        PROBE.good("IF(A)THEN;ENDIF;END");
        PROBE.fault(8, 2, "IF(A)THEN;ELSE;END");
        PROBE.fault(8, 2, "IF(A)THEN;ELSEIF(A)THEN;END");
        PROBE.fault(8, 3, "IF(A)THEN;IF(A)THEN;ENDIF;END");
        PROBE.good("IF(A)THEN;IF(A)THEN;ENDIF;ENDIF;END");
        PROBE.good("IF(A)STOP;END");
        PROBE.good("DO10I=1;END");
        PROBE.good("IF(A)=1;END");
    }

    /** "for each in this order; the first fault counts": statements that have two or more. */
    private static void inThisOrder() {
        PROBE.fault(1, 1, "10:X=1;10:ZZ;END");
        PROBE.fault(1, 1, "DO10I=1,2;10:ZZ;END");
        PROBE.fault(1, 1, "X=1;ZZ");
        PROBE.fault(2, 1, "10:X=1;10:REALX;END");
        PROBE.fault(2, 1, "10:X=1;10:ELSE;END");
        PROBE.fault(2, 2, "10:X=1;DO10I=1,2;10:STOP;END");
        PROBE.fault(2, 1, "10:X=1;10:GOTO99;END");
        PROBE.fault(2, 1, "10:X=1;10:X=2");
        PROBE.fault(2, 1, "10:IF(A)THEN;10:END");
        PROBE.fault(3, 1, "DO10I=1,2;10:REALX;END");
        PROBE.fault(3, 1, "X=1;REALX");
        PROBE.fault(4, 1, "DO10I=1,2;10:ENDIF;END");
        PROBE.fault(4, 1, "X=1;ENDIF");
        PROBE.fault(5, 1, "DO10I=1,2;10:GOTO99;END");
        PROBE.fault(5, 1, "DO10I=1,2;10:STOP");
        PROBE.fault(5, 1, "DO10I=1,2;10:END;X=1");
        PROBE.fault(5, 1, "DO10I=1,2;10:END");
        PROBE.fault(6, 1, "X=1;GOTO99");
        PROBE.fault(6, 1, "X=1;DO99I=1,2");
        PROBE.fault(7, 1, "IF(A)THEN;END;ENDIF");
    }

    /** "looked at from the first statement to the last": the first one with a fault, however great, counts. */
    private static void theFirstStatementCounts() {
        PROBE.fault(7, 0, "END;ZZ");
        PROBE.fault(6, 0, "GOTO99;10:X=1;10:X=1;ZZ");
        PROBE.fault(5, 1, "DO10I=1,2;10:STOP;ENDIF;REALX;ZZ");
        PROBE.fault(4, 1, "X=1;ELSE;REALX;10:X=1;10:X=1;ZZ");
        PROBE.fault(3, 1, "X=1;REALX;10:X=1;10:X=1;ZZ");
        PROBE.fault(2, 1, "10:X=1;10:X=1;ZZ");
    }

    /** "A DECK has at most 24 statements": the most that can be open, and the last place that can have a fault. */
    private static void mostStatements() {
        String[] opens = {"IF(A)THEN;", "DO10I=1,2;"};
        PROBE.fault(8, 23, opens[0].repeat(23) + "END");
        PROBE.fault(7, 23, opens[0].repeat(23) + "IF(A)THEN");
        PROBE.good(opens[0].repeat(11) + "X=1;" + "ENDIF;".repeat(11) + "END");
        PROBE.fault(8, 23, opens[0].repeat(12) + "ENDIF;".repeat(11) + "END");
        PROBE.fault(4, 22, opens[0].repeat(11) + "ENDIF;".repeat(11) + "ENDIF;END");
        PROBE.good(opens[1].repeat(22) + "10:X=1;END");
        PROBE.fault(5, 23, opens[1].repeat(23) + "10:END");
        PROBE.fault(6, 23, "X=1;".repeat(23) + "GOTO10");
        PROBE.fault(2, 23, "10:X=1;" + "X=1;".repeat(22) + "10:END");
        PROBE.good("GOTO10;" + "X=1;".repeat(22) + "10:END");
    }

    /** "texts of at most 80 characters": digits that end with a full text. */
    private static void fullTexts() {
        for (String digits : new String[] {"1", "01", "12", "12345"}) {
            String goTo = "IF(" + "1".repeat(80 - 8 - digits.length()) + ")GOTO" + digits;
            PROBE.fault(6, 0, goTo + ";END");
            PROBE.good(goTo + ";" + digits + ":END");
        }
        String none = "X=" + "1".repeat(77) + "+";
        PROBE.fault(1, 0, none + ";END");
        PROBE.good(none.substring(0, 79) + "1;END");
        String loop = "DO10I=1," + "1".repeat(72);
        PROBE.fault(6, 0, loop + ";END");
        PROBE.good(loop + ";10:X=1;END");
        PROBE.fault(6, 0, "GOTO(" + "1,".repeat(36) + "2)I;1:END");
        PROBE.good("GOTO(" + "1,".repeat(36) + "1)I;1:END");
    }

    /** "The structure's first fault; 0 if there is none." "The statement that has it; NONE if there is none." */
    private static void askingChangesNothing() {
        Desk desk = new Desk();
        desk.card("      IF(A)THEN");
        desk.write("      ENDIF");
        String before = desk.seen();
        PROBE.due("faultAt() before fault()", 0, desk.ask().faultAt());
        PROBE.due("fault()", 7, desk.ask().fault());
        PROBE.due("the deck behind these", before, desk.seen());
        PROBE.due("the card behind these", 1, desk.join());
        PROBE.due("faultAt()", 1, desk.ask().faultAt());
        PROBE.due("fault()", 7, desk.ask().fault());
        desk.card("      END");
        PROBE.due("fault() of the whole", 0, desk.ask().fault());
        PROBE.due("faultAt() of the whole", DeckFront.NONE, desk.ask().faultAt());
        desk.ask().clear();
        desk.card("      IF(A)THEN");
        desk.card("      X=1");
        PROBE.due("fault() with an open IF THEN", 7, desk.ask().fault());
        desk.ask().clear();
        desk.card("      END");
        PROBE.due("nothing is open from the deck before", 0, desk.ask().fault());
    }
}
