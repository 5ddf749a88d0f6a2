/** Promise 7: what a statement is. */
public final class WhatTest {
    private static final Probe PROBE = new Probe();

    public static void main(String[] args) {
        PROBE.is(1, "DO10I=1,10", "DO 10 I = 1, 10, 2", "DO1,X=A(1,2),B", "DO99999ABCDEF=F(),-1,+2", "DO10E5=1,2",
                "DO 00010 I=1,2", "DO0I=',',2");
        PROBE.is(0, "DO10I=1,2,3,4", "DO123456I=1,2", "DO,I=1,2", "DO10=1,2", "DO10,,I=1,2", "DO10I(1)=1,2", "DO10I=1,",
                "DO10I=(1,2)", "DO10ABCDEFG=1,2", "DOI=1,2");
        PROBE.is(2, "DO10I=1.10", "DO10I=(1+2)", "DO10I=F(1,2)", "A=1", "ABCDEF=1", "A1B2C3=X", "A(1)=2", "A(I,J+1)=2",
                "IF(I)=3", "IF(I,J)=3", "GOTO10=5", "GOTO(10,20)=5", "CALLX=1", "CALLX(1)=2", "ELSEIF(X)=1", "END=1",
                "ENDIF=1", "STOP=1", "RETURN=1", "PRINT=1", "REALX=1", "ELSE=1", "X='='", "X=','", "THEN=1", "GOTO=1",
                "DO=1", "X='IT'", "X=''", "REAL(1)=2", "IF=1");
        PROBE.is(0, "A()=1", "ABCDEFG=1", "1A=1", "A=", "=1", "A==1", "A(1=2", "A(1))=2", "A=1)", "A=(1", "A=1,2",
                "A.B=1", "A(1)(2)=3", "A=B=C", "'A'=1", "-A=1", "CONTINUE=1", "INTEGERI=3", "PRINT*,X=1");
        PROBE.is(3, "IF(A)THEN", "I F ( A .EQ. B ) T H E N", "IF(')THEN')THEN", "IF((A))THEN", "IF(F(A,B))THEN");
        PROBE.is(0, "IF()THEN", "IF(A,B)THEN", "IF(A)THENX", "IFATHEN", "IF(A)", "IF(A))THEN", "IF((A)THEN");
        PROBE.is(4, "IF(A)X=1", "IF(A)X(1)=1", "IF(A)GOTO10", "IF(A)CALLS", "IF(A)CALLS(1)", "IF(A)RETURN", "IF(A)STOP",
                "IF(A)PRINT*,X", "IF(A)GOTO(1,2),I", "IF(A)THEN=1", "IF(A)IF(B)=1", "IF(A)DO10I=1.5", "IF(A)THENX=1");
        PROBE.is(0, "IF(A)DO10I=1,5", "IF(A)IF(B)THEN", "IF(A)IF(B)X=1", "IF(A)ELSE", "IF(A)ELSEIF(B)THEN",
                "IF(A)ENDIF", "IF(A)CONTINUE", "IF(A)END", "IF(A)REALX", "IF(A)DIMENSIONX(1)", "IF(A)ZZZ", "IF(A,B)X=1",
                "IF()X=1", "IF(A)X=1,2");
        PROBE.is(5, "ELSEIF(A)THEN", "ELSE IF (A.OR.B) THEN");
        PROBE.is(0, "ELSEIF(A)", "ELSEIF(A)X=1", "ELSEIF()THEN", "ELSEIFATHEN");
        PROBE.is(6, "ELSE", "E L S E");
        PROBE.is(7, "ENDIF", "END IF");
        PROBE.is(8, "CONTINUE", "CONT INUE");
        PROBE.is(9, "GOTO1", "GO TO 99999", "GOTO00000", "GOTO00010");
        PROBE.is(0, "GOTO", "GOTO123456", "GOTOX", "GOTO1X", "ELSEX", "ENDIFX", "CONTINUE1", "RETURN1", "STOP1", "END1",
                "STOPS", "ENDX");
        PROBE.is(10, "CALLS", "CALL ABCDEF", "CALLS(1)", "CALLS(A,F(),'X')", "CALLCALL", "CALLA1");
        PROBE.is(0, "CALL", "CALLS()", "CALLABCDEFG", "CALL1", "CALLS(1", "CALLS(1)X", "CALLS1,2", "CALLS(,)");
        PROBE.is(11, "RETURN");
        PROBE.is(12, "STOP");
        PROBE.is(13, "PRINT*,X", "PRINT *, 'A B', X+1, F()", "PRINT*,-1");
        PROBE.is(0, "PRINT*,", "PRINT*", "PRINTX", "PRINT*X", "PRINT*,X,", "PRINT,X");
        PROBE.is(14, "END", "E N D");
        PROBE.is(15, "INTEGERI", "REAL X,Y1", "LOGICAL ABCDEF,B", "INTEGERREAL", "REALREAL", "INTEGERINTEGE");
        PROBE.is(0, "INTEGER", "REAL", "REALX,", "REALX(5)", "REAL1", "LOGICALABCDEFG", "REALX,,Y", "INTEGERINTEGER",
                "REAL,X", "CHARACTERX");
        PROBE.is(16, "DIMENSIONA(1)", "DIMENSION A(999), B1(000)");
        PROBE.is(0, "DIMENSION", "DIMENSIONA", "DIMENSIONA()", "DIMENSIONA(1000)", "DIMENSIONA(N)", "DIMENSIONA(1,2)",
                "DIMENSIONA(1),", "DIMENSIONA(1)B(2)", "DIMENSIONABCDEFG(1)", "DIMENSIONA(1),B");
        PROBE.is(17, "GOTO(1)I", "GOTO(1,2),I", "GO TO (10, 20, 99999) I+1", "GOTO(1)-I", "GOTO(1)5", "GOTO(1)(I)");
        PROBE.is(0, "GOTO()I", "GOTO(1)", "GOTO(1),", "GOTO(1,)I", "GOTO(123456)I", "GOTO(I)I", "GOTO(1),,I",
                "GOTO(1)I,J");
        PROBE.is(0, "", "X", "1", "'", "X='", "X='A", "''", "(", "X=A'B'");
        expressions();
        brackets();
        numbersOfNoStatement();
        PROBE.end();
    }

    private static void expressions() {
        PROBE.is(2, "X=A.OR.B.OR.C", "X=A.AND..NOT.B", "X=.NOT..NOT..NOT.A", "X=A.LT.B", "X=A.LE.-B", "X=A.NE.B",
                "X=A.GT.B.AND.C.GE.D", "X=-A", "X=+A-B", "X=(-A)*(-B)", "X=A**B**C", "X=A/B*C", "X=.TRUE.",
                "X=.FALSE..OR..TRUE.", "X=F()", "X=F(G(),1)", "X=.NOT.-A.EQ.+B", "X='A'.EQ.'B'");
        PROBE.is(0, "X=A.OR.", "X=.OR.A", "X=A.AND.OR.B", "X=A.NOT.B", "X=A.EQ.B.EQ.C", "X=A.LT.B.LT.C", "X=--A",
                "X=A+-B", "X=A*-B", "X=A**-B", "X=A***B", "X=A//B", "X=A*", "X=*A", "X=()", "X=F(,)", "X=F(1,)",
                "X=F(,1)", "X=A B.", "X=A.EQ.NOT.B", "X=A.EQ..NOT.B", "X=.TRUE", "X=TRUE.", "X=.XOR.A", "X=A.XOR.B",
                "X=F(1)(2)", "X=(1)(2)", "X='A''B'", "X=A'B", "X=1'A'", "X=ABCDEFG", "X=ABCDEFG(1)", "X=-.NOT.A",
                "X=A+.NOT.B", "X=(A,B)", "X=.A", "X=.");
        PROBE.is(2, "X=1", "X=0001", "X=1.", "X=1.5", "X=.5", "X=1E5", "X=1.E5", "X=1.5E+5", "X=.5E-05", "X=1.E5.EQ.Y",
                "X=1.EQ.2", "X=1..EQ.2", "X=1.5.EQ.2.", "X=1.OR.2", "X=1.AND.2", "X=1.LT..5", "X=1.GE.2.E1", "X=1E5+E5",
                "X=1.E+5", "X=1+.5", "X=2.LE.3", "X=2.NE.3", "X=2.GT.3");
        PROBE.is(0, "X=1E", "X=1.E", "X=1E+", "X=1E+X", "X=1EX", "X=1X", "X=1.X", "X=1.2.3", "X=1..5", "X=.E5",
                "X=1E5.", "X=1E5E5", "X=1.EQ2", "X=1.E.2", "X=1.TRUE.", "X=1.NOT.2", "X=1.E5.5", "X=1D5", "X=1.XY.2");
    }

    private static void brackets() {
        PROBE.is(2, "X=((((((((1))))))))", "X=F(F(F(F(F(F(F(F(1))))))))", "X=F(F(F(F(F(F(F(F())))))))",
                "A((((((((1))))))))=1", "X=((1))+((((((((1))))))))");
        PROBE.is(0, "X=(((((((((1)))))))))", "X=F(F(F(F(F(F(F(F(F(1)))))))))", "X=F(F(F(F(F(F(F(F(F()))))))))",
                "A(((((((((1)))))))))=1");
        PROBE.is(3, "IF((((((((A))))))))THEN");
        PROBE.is(0, "IF(((((((((A)))))))))THEN", "ELSEIF(((((((((A)))))))))THEN", "CALLS(((((((((A)))))))))",
                "IF(((((((((A)))))))))STOP");
        PROBE.is(4, "IF((((((((A))))))))X=((((((((1))))))))", "IF(A)CALLS((((((((A))))))))");
        PROBE.is(5, "ELSEIF((((((((A))))))))THEN");
        PROBE.is(10, "CALLS((((((((A))))))))");
        PROBE.is(13, "PRINT*,((((((((A))))))))");
        PROBE.is(0, "PRINT*,(((((((((A)))))))))", "DO1I=1,(((((((((A)))))))))", "GOTO(1)(((((((((A)))))))))");
    }

    private static void numbersOfNoStatement() {
        DeckFront deck = Probe.deck("END");
        for (int statement : new int[] {-1, 1, 24, 100, Integer.MIN_VALUE, Integer.MAX_VALUE}) {
            PROBE.due("what(" + statement + ")", DeckFront.NONE, deck.what(statement));
        }
        PROBE.due("what(0) of a new object", DeckFront.NONE, new DeckFront().what(0));
        Probe.card(deck, "     1X=1");
        PROBE.due("what of a statement that was continued", 2, deck.what(0));
    }
}
