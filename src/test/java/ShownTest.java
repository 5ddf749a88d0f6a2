/** Promise 8: how statements are shown. */
public final class ShownTest {
    private static final Probe PROBE = new Probe();

    private static void shows(String text, String want) {
        DeckFront deck = new DeckFront();
        PROBE.due("card of " + text, 0, Probe.add(deck, text));
        PROBE.due("shown of " + text, want, Probe.shown(deck, 0));
    }

    public static void main(String[] args) {
        expressions();
        primaries();
        statements();
        nothingThere();
        PROBE.end();
    }

    private static void expressions() {
        shows("X=A+B+C", "X=((A+B)+C)");
        shows("X=A-B+C-D", "X=(((A-B)+C)-D)");
        shows("X=A-(B-C)", "X=(A-(B-C))");
        shows("X=A+B*C", "X=(A+(B*C))");
        shows("X=(A+B)*C", "X=((A+B)*C)");
        shows("X=A*B/C*D", "X=(((A*B)/C)*D)");
        shows("X=A**B**C", "X=(A**(B**C))");
        shows("X=(A**B)**C", "X=((A**B)**C)");
        shows("X=A**B**C**D", "X=(A**(B**(C**D)))");
        shows("X=A*B**C*D", "X=((A*(B**C))*D)");
        shows("X=-A", "X=(-A)");
        shows("X=+A", "X=(+A)");
        shows("X=-A+B", "X=((-A)+B)");
        shows("X=-A*B/C+D", "X=((-((A*B)/C))+D)");
        shows("X=-A**B", "X=(-(A**B))");
        shows("X=(-A)**(-B)", "X=((-A)**(-B))");
        shows("X=A.LT.B", "X=(A.LT.B)");
        shows("X=-A.GE.+B-C", "X=((-A).GE.((+B)-C))");
        shows("X=A+B.NE.C*D", "X=((A+B).NE.(C*D))");
        shows("X=(A.EQ.B).EQ.C", "X=((A.EQ.B).EQ.C)");
        shows("X=.NOT.A", "X=(.NOT.A)");
        shows("X=.NOT..NOT.A", "X=(.NOT.(.NOT.A))");
        shows("X=.NOT.A.LE.B", "X=(.NOT.(A.LE.B))");
        shows("X=.NOT.A.AND.B", "X=((.NOT.A).AND.B)");
        shows("X=A.AND..NOT.B.OR.C", "X=((A.AND.(.NOT.B)).OR.C)");
        shows("X=A.OR.B.OR.C.AND.D.AND.E", "X=((A.OR.B).OR.((C.AND.D).AND.E))");
        shows("X=(A.OR.B).AND.C", "X=((A.OR.B).AND.C)");
        shows("X=.NOT.(A.OR.B)", "X=(.NOT.(A.OR.B))");
        shows("X=.NOT.-A.GT.B", "X=(.NOT.((-A).GT.B))");
        shows("X=((((A))))", "X=A");
        shows("X=((A)+((B)))", "X=(A+B)");
        shows("X=A.OR.B.AND..NOT.C.LT.-D+E*F**G", "X=(A.OR.(B.AND.(.NOT.(C.LT.((-D)+(E*(F**G)))))))");
        shows("X=((((((((A+B)+C)+D)+E)+F)+G)+H)+I)", "X=((((((((A+B)+C)+D)+E)+F)+G)+H)+I)");
    }

    private static void primaries() {
        shows("X=1.EQ.2", "X=(1.EQ.2)");
        shows("X=1..EQ.2.", "X=(1..EQ.2.)");
        shows("X=1.E5.EQ.2.5E-3", "X=(1.E5.EQ.2.5E-3)");
        shows("X=007+00.50+.5", "X=((007+00.50)+.5)");
        shows("X=1E+5-1", "X=(1E+5-1)");
        shows("X=1.E5-1", "X=(1.E5-1)");
        shows("X=.TRUE..AND..FALSE.", "X=(.TRUE..AND..FALSE.)");
        shows("X=F()+G(A+B,-C)", "X=(F()+G((A+B),(-C)))");
        shows("X=F((A),(B+C))", "X=F(A,(B+C))");
        shows("X=F(G(H(1)))", "X=F(G(H(1)))");
        shows("X='A+B (C), D= '", "X='A+B (C), D= '");
        shows("X=''.EQ.'.OR.'", "X=(''.EQ.'.OR.')");
        shows("X=F(',',')')", "X=F(',',')')");
    }

    private static void statements() {
        shows("DO 10 I = 1 , N + 1", "DO10I=1,(N+1)");
        shows("DO 00010 , I = (1) , 2 , -3", "DO10I=1,2,(-3)");
        shows("DO 000 I = 1, 2", "DO0I=1,2");
        shows("DO 10 E5 = 1, 2", "DO10E5=1,2");
        shows("A(I+1,(J)) = (B)", "A((I+1),J)=B");
        shows("IF ((A)) THEN", "IF(A)THEN");
        shows("IF (A.OR.B) THEN", "IF((A.OR.B))THEN");
        shows("IF (A) X = 1 + 2 + 3", "IF(A)X=((1+2)+3)");
        shows("IF (A) GO TO 007", "IF(A)GOTO7");
        shows("IF (A) GO TO (01, 2), K", "IF(A)GOTO(1,2)K");
        shows("IF (A) CALL S(-1)", "IF(A)CALLS((-1))");
        shows("IF (A) IF (B) = (3)", "IF(A)IF(B)=3");
        shows("IF (A+B) PRINT*, (C)", "IF((A+B))PRINT*,C");
        shows("IF (A) RETURN", "IF(A)RETURN");
        shows("IF (A) STOP", "IF(A)STOP");
        shows("ELSE IF (A .AND. B) THEN", "ELSEIF((A.AND.B))THEN");
        shows("E LSE", "ELSE");
        shows("END IF", "ENDIF");
        shows("CON TINUE", "CONTINUE");
        shows("GO TO 00120", "GOTO120");
        shows("GO TO 00000", "GOTO0");
        shows("CALL S", "CALLS");
        shows("CALL S(A*B+C, (D), F())", "CALLS(((A*B)+C),D,F())");
        shows("RETURN", "RETURN");
        shows("STOP", "STOP");
        shows("PRINT *, 'A B', -X, (Y)", "PRINT*,'A B',(-X),Y");
        shows("END", "END");
        shows("INTEGER A, B", "INTEGERA,B");
        shows("REAL A", "REALA");
        shows("LOGICAL A, B1, C", "LOGICALA,B1,C");
        shows("DIMENSION A(010), B(000), C(7)", "DIMENSIONA(10),B(0),C(7)");
        shows("GO TO (00010, 0, 20), I", "GOTO(10,0,20)I");
        shows("GO TO (1) (I + 1)", "GOTO(1)(I+1)");
        shows("GO TO (1), (I)", "GOTO(1)I");
        shows("GO TO (1, 02) - I", "GOTO(1,2)(-I)");
        shows("DO 10 I = A.OR.B, C.OR.D, E.OR.F", "DO10I=(A.OR.B),(C.OR.D),(E.OR.F)");
        shows("IF (A.OR.B) STOP", "IF((A.OR.B))STOP");
        shows("GO TO (1), A.OR.B", "GOTO(1)(A.OR.B)");
        shows("CALL S(A.OR.B, C.OR.D)", "CALLS((A.OR.B),(C.OR.D))");
        shows("PRINT*, A.OR.B, C.OR.D", "PRINT*,(A.OR.B),(C.OR.D)");
        shows("GO TO 007 X", "GOTO007X");
        shows("X = (A + B", "X=(A+B");
        shows("IF ((A)) DO 007, I = (1), 2", "IF((A))DO007,I=(1),2");
        shows("DIMENSION A(007), B", "DIMENSIONA(007),B");
        shows("", "");
    }

    private static void nothingThere() {
        DeckFront deck = Probe.deck("X=A+B");
        PROBE.due("shown(0, 2)", '(', deck.shown(0, 2));
        PROBE.due("shown(0, 6)", ')', deck.shown(0, 6));
        for (int k : new int[] {-1, 7, 8, 1000, Integer.MIN_VALUE, Integer.MAX_VALUE}) {
            PROBE.due("shown(0, " + k + ")", DeckFront.NONE, deck.shown(0, k));
        }
        for (int statement : new int[] {-1, 1, 24, Integer.MIN_VALUE, Integer.MAX_VALUE}) {
            PROBE.due("shown(" + statement + ", 0)", DeckFront.NONE, deck.shown(statement, 0));
        }
        Probe.card(deck, "     1)");
        PROBE.due("a continued one that is none now", "X=A+B)", Probe.shown(deck, 0));
    }
}
