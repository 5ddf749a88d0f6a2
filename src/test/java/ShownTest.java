/** Promise 8: how statements are shown. */
public final class ShownTest {
    private static final Probe PROBE = new Probe();

    public static void main(String[] args) {
        expressions();
        primaries();
        statements();
        nothingThere();
        PROBE.end();
    }

    private static void expressions() {
        PROBE.shows("X=A+B+C", "X=((A+B)+C)");
        PROBE.shows("X=A-B+C-D", "X=(((A-B)+C)-D)");
        PROBE.shows("X=A-(B-C)", "X=(A-(B-C))");
        PROBE.shows("X=A+B*C", "X=(A+(B*C))");
        PROBE.shows("X=(A+B)*C", "X=((A+B)*C)");
        PROBE.shows("X=A*B/C*D", "X=(((A*B)/C)*D)");
        PROBE.shows("X=A**B**C", "X=(A**(B**C))");
        PROBE.shows("X=(A**B)**C", "X=((A**B)**C)");
        PROBE.shows("X=A**B**C**D", "X=(A**(B**(C**D)))");
        PROBE.shows("X=A*B**C*D", "X=((A*(B**C))*D)");
        PROBE.shows("X=-A", "X=(-A)");
        PROBE.shows("X=+A", "X=(+A)");
        PROBE.shows("X=-A+B", "X=((-A)+B)");
        PROBE.shows("X=-A*B/C+D", "X=((-((A*B)/C))+D)");
        PROBE.shows("X=-A**B", "X=(-(A**B))");
        PROBE.shows("X=(-A)**(-B)", "X=((-A)**(-B))");
        PROBE.shows("X=A.LT.B", "X=(A.LT.B)");
        PROBE.shows("X=-A.GE.+B-C", "X=((-A).GE.((+B)-C))");
        PROBE.shows("X=A+B.NE.C*D", "X=((A+B).NE.(C*D))");
        PROBE.shows("X=(A.EQ.B).EQ.C", "X=((A.EQ.B).EQ.C)");
        PROBE.shows("X=.NOT.A", "X=(.NOT.A)");
        PROBE.shows("X=.NOT..NOT.A", "X=(.NOT.(.NOT.A))");
        PROBE.shows("X=.NOT.A.LE.B", "X=(.NOT.(A.LE.B))");
        PROBE.shows("X=.NOT.A.AND.B", "X=((.NOT.A).AND.B)");
        PROBE.shows("X=A.AND..NOT.B.OR.C", "X=((A.AND.(.NOT.B)).OR.C)");
        PROBE.shows("X=A.OR.B.OR.C.AND.D.AND.E", "X=((A.OR.B).OR.((C.AND.D).AND.E))");
        PROBE.shows("X=(A.OR.B).AND.C", "X=((A.OR.B).AND.C)");
        PROBE.shows("X=.NOT.(A.OR.B)", "X=(.NOT.(A.OR.B))");
        PROBE.shows("X=.NOT.-A.GT.B", "X=(.NOT.((-A).GT.B))");
        PROBE.shows("X=((((A))))", "X=A");
        PROBE.shows("X=((A)+((B)))", "X=(A+B)");
        PROBE.shows("X=A.OR.B.AND..NOT.C.LT.-D+E*F**G", "X=(A.OR.(B.AND.(.NOT.(C.LT.((-D)+(E*(F**G)))))))");
        PROBE.shows("X=((((((((A+B)+C)+D)+E)+F)+G)+H)+I)", "X=((((((((A+B)+C)+D)+E)+F)+G)+H)+I)");
    }

    private static void primaries() {
        PROBE.shows("X=1.EQ.2", "X=(1.EQ.2)");
        PROBE.shows("X=1..EQ.2.", "X=(1..EQ.2.)");
        PROBE.shows("X=1.E5.EQ.2.5E-3", "X=(1.E5.EQ.2.5E-3)");
        PROBE.shows("X=007+00.50+.5", "X=((007+00.50)+.5)");
        PROBE.shows("X=1E+5-1", "X=(1E+5-1)");
        PROBE.shows("X=1.E5-1", "X=(1.E5-1)");
        PROBE.shows("X=.TRUE..AND..FALSE.", "X=(.TRUE..AND..FALSE.)");
        PROBE.shows("X=F()+G(A+B,-C)", "X=(F()+G((A+B),(-C)))");
        PROBE.shows("X=F((A),(B+C))", "X=F(A,(B+C))");
        PROBE.shows("X=F(G(H(1)))", "X=F(G(H(1)))");
        PROBE.shows("X='A+B (C), D= '", "X='A+B (C), D= '");
        PROBE.shows("X=''.EQ.'.OR.'", "X=(''.EQ.'.OR.')");
        PROBE.shows("X=F(',',')')", "X=F(',',')')");
    }

    private static void statements() {
        PROBE.shows("DO 10 I = 1 , N + 1", "DO10I=1,(N+1)");
        PROBE.shows("DO 00010 , I = (1) , 2 , -3", "DO10I=1,2,(-3)");
        PROBE.shows("DO 000 I = 1, 2", "DO0I=1,2");
        PROBE.shows("DO 10 E5 = 1, 2", "DO10E5=1,2");
        PROBE.shows("A(I+1,(J)) = (B)", "A((I+1),J)=B");
        PROBE.shows("IF ((A)) THEN", "IF(A)THEN");
        PROBE.shows("IF (A.OR.B) THEN", "IF((A.OR.B))THEN");
        PROBE.shows("IF (A) X = 1 + 2 + 3", "IF(A)X=((1+2)+3)");
        PROBE.shows("IF (A) GO TO 007", "IF(A)GOTO7");
        PROBE.shows("IF (A) GO TO (01, 2), K", "IF(A)GOTO(1,2)K");
        PROBE.shows("IF (A) CALL S(-1)", "IF(A)CALLS((-1))");
        PROBE.shows("IF (A) IF (B) = (3)", "IF(A)IF(B)=3");
        PROBE.shows("IF (A+B) PRINT*, (C)", "IF((A+B))PRINT*,C");
        PROBE.shows("IF (A) RETURN", "IF(A)RETURN");
        PROBE.shows("IF (A) STOP", "IF(A)STOP");
        PROBE.shows("ELSE IF (A .AND. B) THEN", "ELSEIF((A.AND.B))THEN");
        PROBE.shows("E LSE", "ELSE");
        PROBE.shows("END IF", "ENDIF");
        PROBE.shows("CON TINUE", "CONTINUE");
        PROBE.shows("GO TO 00120", "GOTO120");
        PROBE.shows("GO TO 00000", "GOTO0");
        PROBE.shows("CALL S", "CALLS");
        PROBE.shows("CALL S(A*B+C, (D), F())", "CALLS(((A*B)+C),D,F())");
        PROBE.shows("RETURN", "RETURN");
        PROBE.shows("STOP", "STOP");
        PROBE.shows("PRINT *, 'A B', -X, (Y)", "PRINT*,'A B',(-X),Y");
        PROBE.shows("END", "END");
        PROBE.shows("INTEGER A, B", "INTEGERA,B");
        PROBE.shows("REAL A", "REALA");
        PROBE.shows("LOGICAL A, B1, C", "LOGICALA,B1,C");
        PROBE.shows("DIMENSION A(010), B(000), C(7)", "DIMENSIONA(10),B(0),C(7)");
        PROBE.shows("GO TO (00010, 0, 20), I", "GOTO(10,0,20)I");
        PROBE.shows("GO TO (1) (I + 1)", "GOTO(1)(I+1)");
        PROBE.shows("GO TO (1), (I)", "GOTO(1)I");
        PROBE.shows("GO TO (1, 02) - I", "GOTO(1,2)(-I)");
        PROBE.shows("DO 10 I = A.OR.B, C.OR.D, E.OR.F", "DO10I=(A.OR.B),(C.OR.D),(E.OR.F)");
        PROBE.shows("IF (A.OR.B) STOP", "IF((A.OR.B))STOP");
        PROBE.shows("GO TO (1), A.OR.B", "GOTO(1)(A.OR.B)");
        PROBE.shows("CALL S(A.OR.B, C.OR.D)", "CALLS((A.OR.B),(C.OR.D))");
        PROBE.shows("PRINT*, A.OR.B, C.OR.D", "PRINT*,(A.OR.B),(C.OR.D)");
        PROBE.shows("GO TO 007 X", "GOTO007X");
        PROBE.shows("X = (A + B", "X=(A+B");
        PROBE.shows("IF ((A)) DO 007, I = (1), 2", "IF((A))DO007,I=(1),2");
        PROBE.shows("DIMENSION A(007), B", "DIMENSIONA(007),B");
        PROBE.shows("", "");
    }

    private static void nothingThere() {
        DeckFront deck = Probe.deck("X=A+B");
        PROBE.due("shown(0, 2)", '(', deck.shown(0, 2));
        PROBE.due("shown(0, 6)", ')', deck.shown(0, 6));
        for (int k : new int[] {-1, 7, 8, 1000, Integer.MIN_VALUE, Integer.MAX_VALUE}) {
            PROBE.due("shown(0, " + k + ")", DeckFront.NONE, deck.shown(0, k));
        }
        for (int statement : new int[] {-1, 1, 24, Integer.MIN_VALUE, Integer.MAX_VALUE}) {
            PROBE.due("shown(" + statement + ", 0)", DeckFront.NONE, deck.shown(statement, 0));
        }
        Probe.card(deck, "     1)");
        PROBE.due("a continued one that is none now", "X=A+B)", Probe.shown(deck, 0));
    }
}
