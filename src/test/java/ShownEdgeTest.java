/** The boundaries of how statements are shown: the sentences of 'Terms' on showing, and promise 8. */
public final class ShownEdgeTest {
    private static final Probe PROBE = new Probe();

    public static void main(String[] args) {
        betweenTwo();
        signBeforeTheFirst();
        bracketsOfItsOwn();
        asTheyAreWritten();
        zerosBefore();
        commaLeftOut();
        samePlaces();
        statementBehindAnIf();
        noneShowsAsItsText();
        characterK();
        longest();
        PROBE.end();
    }

    /** "(x+y) for what is between two (.OR. and others likewise)": which of two signs binds closer, for every pair. */
    private static void betweenTwo() {
        String[] signs = {".OR.", ".AND.", ".LT.", ".LE.", ".EQ.", ".NE.", ".GT.", ".GE.", "+", "-", "*", "/", "**"};
        int[] closeness = {1, 2, 3, 3, 3, 3, 3, 3, 4, 4, 5, 5, 6};
        for (int i = 0; i < signs.length; i++) {
            PROBE.shows("X=A" + signs[i] + "B", "X=(A" + signs[i] + "B)");
            PROBE.shows("X=(A" + signs[i] + "B)", "X=(A" + signs[i] + "B)");
            for (int j = 0; j < signs.length; j++) {
                String text = "X=A" + signs[i] + "B" + signs[j] + "C";
                boolean rightFirst = closeness[j] > closeness[i] || closeness[i] == 6 && closeness[j] == 6;
                String left = "X=((A" + signs[i] + "B)" + signs[j] + "C)";
                String right = "X=(A" + signs[i] + "(B" + signs[j] + "C))";
                boolean twoRelations = closeness[i] == 3 && closeness[j] == 3;
                PROBE.shows(text, twoRelations ? text : rightFirst ? right : left);
                PROBE.shows("X=(A" + signs[i] + "B)" + signs[j] + "C", left);
                PROBE.shows("X=A" + signs[i] + "(B" + signs[j] + "C)", right);
            }
        }
        PROBE.shows("X=A", "X=A");
    }

    /** "(-x) and (+x) for a sign before the first (which is a whole term), (.NOT.x)". */
    private static void signBeforeTheFirst() {
        PROBE.shows("X=-A", "X=(-A)");
        PROBE.shows("X=+A", "X=(+A)");
        PROBE.shows("X=-A*B", "X=(-(A*B))");
        PROBE.shows("X=-A/B*C", "X=(-((A/B)*C))");
        PROBE.shows("X=+A**B", "X=(+(A**B))");
        PROBE.shows("X=-A+B", "X=((-A)+B)");
        PROBE.shows("X=-A-B-C", "X=(((-A)-B)-C)");
        PROBE.shows("X=-A*B+C", "X=((-(A*B))+C)");
        PROBE.shows("X=A-B*C", "X=(A-(B*C))");
        PROBE.shows("X=(-A)*B", "X=((-A)*B)");
        PROBE.shows("X=-A.LT.-B", "X=((-A).LT.(-B))");
        PROBE.shows("X=-1", "X=(-1)");
        PROBE.shows("X=.NOT.A", "X=(.NOT.A)");
        PROBE.shows("X=.NOT.A.AND.B", "X=((.NOT.A).AND.B)");
        PROBE.shows("X=.NOT.A.EQ.B", "X=(.NOT.(A.EQ.B))");
        PROBE.shows("X=.NOT.-A", "X=(.NOT.(-A))");
        PROBE.shows("X=.NOT..NOT..NOT.A.OR.B", "X=((.NOT.(.NOT.(.NOT.A))).OR.B)");
        PROBE.shows("X=A.OR..NOT.B", "X=(A.OR.(.NOT.B))");
    }

    /** "names with f(x,y); brackets of its own are not shown." */
    private static void bracketsOfItsOwn() {
        PROBE.shows("X=(A)", "X=A");
        PROBE.shows("X=((((((((A))))))))", "X=A");
        PROBE.shows("X=(A+B)", "X=(A+B)");
        PROBE.shows("X=((A+B))", "X=(A+B)");
        PROBE.shows("X=F()", "X=F()");
        PROBE.shows("X=F(A)", "X=F(A)");
        PROBE.shows("X=F((A))", "X=F(A)");
        PROBE.shows("X=F(A+B)", "X=F((A+B))");
        PROBE.shows("X=F(A,(B),C*D)", "X=F(A,B,(C*D))");
        PROBE.shows("X=(F(A))", "X=F(A)");
        PROBE.shows("X=('A')", "X='A'");
        PROBE.shows("X=(1.5)", "X=1.5");
        PROBE.shows("X=(.TRUE.)", "X=.TRUE.");
        PROBE.shows("IF((A))THEN", "IF(A)THEN");
        PROBE.shows("IF(A+B)THEN", "IF((A+B))THEN");
    }

    /** "numbers, quotes and words as they are written". */
    private static void asTheyAreWritten() {
        String[] texts = {"0", "00", "007", "1.", "1.0", "01.50", ".5", "1E5", "1E05", "1.E+05", ".0E-0", "''", "' '",
            "'A  B'", "'007'", "'((A))'", "'A+B'", ".TRUE.", ".FALSE."};
        for (String text : texts) {
            PROBE.shows("X=" + text, "X=" + text);
            PROBE.shows("X=F(" + text + ")", "X=F(" + text + ")");
            PROBE.shows("X=A.EQ." + text, "X=(A.EQ." + text + ")");
            PROBE.shows("PRINT*," + text, "PRINT*," + text);
        }
        PROBE.shows("A(007)=008", "A(007)=008");
        PROBE.shows("CALLS(007)", "CALLS(007)");
        PROBE.shows("X = 0 0 7", "X=007");
    }

    /** "its digits without zeros before (but for 0 alone)". */
    private static void zerosBefore() {
        String[] digits = {"0", "00", "00000", "1", "01", "00001", "10", "010", "00100", "10000", "90000", "00909"};
        String[] want = {"0", "0", "0", "1", "1", "1", "10", "10", "100", "10000", "90000", "909"};
        for (int i = 0; i < digits.length; i++) {
            PROBE.shows("DO" + digits[i] + "I=01,02", "DO" + want[i] + "I=01,02");
            PROBE.shows("DO" + digits[i] + ",A0=01,02", "DO" + want[i] + "A0=01,02");
            PROBE.shows("GOTO" + digits[i], "GOTO" + want[i]);
            PROBE.shows("GOTO(" + digits[i] + ")07", "GOTO(" + want[i] + ")07");
            PROBE.shows("GOTO(1," + digits[i] + ",020)I", "GOTO(1," + want[i] + ",20)I");
            PROBE.shows("IF(01)GOTO" + digits[i], "IF(01)GOTO" + want[i]);
            PROBE.shows("IF(01)GOTO(" + digits[i] + "),I", "IF(01)GOTO(" + want[i] + ")I");
            // Digits that are of no such statement stay: these are names.
            PROBE.shows("DO" + digits[i].substring(0, 1) + "=1", "DO" + digits[i].substring(0, 1) + "=1");
        }
        PROBE.shows("DIMENSIONA(0),B(00),C(000)", "DIMENSIONA(0),B(0),C(0)");
        PROBE.shows("DIMENSIONA(1),B(01),C(001)", "DIMENSIONA(1),B(1),C(1)");
        PROBE.shows("DIMENSIONA(100),B(010),C00(20)", "DIMENSIONA(100),B(10),C00(20)");
    }

    /** "the comma behind a DO's or a computed GO TO's digits is left out". */
    private static void commaLeftOut() {
        PROBE.shows("DO10,I=1,2", "DO10I=1,2");
        PROBE.shows("DO10I=1,2", "DO10I=1,2");
        PROBE.shows("DO0,I=1,2,3", "DO0I=1,2,3");
        PROBE.shows("GOTO(1,2),I", "GOTO(1,2)I");
        PROBE.shows("GOTO(1,2)I", "GOTO(1,2)I");
        PROBE.shows("GOTO(1),F(A,B)", "GOTO(1)F(A,B)");
        PROBE.shows("GOTO(1),(I+1)", "GOTO(1)(I+1)");
        PROBE.shows("IF(A)GOTO(1,2),I", "IF(A)GOTO(1,2)I");
    }

    /** "by its word as above (..) without blanks, .. its names and its expressions in the same places". */
    private static void samePlaces() {
        PROBE.shows(" D O 1 0 I J = 1 , 2 , 3 ", "DO10IJ=1,2,3");
        PROBE.shows(" A ( 1 , B ) = C ", "A(1,B)=C");
        PROBE.shows(" I F ( A ) T H E N ", "IF(A)THEN");
        PROBE.shows(" E L S E I F ( A ) T H E N ", "ELSEIF(A)THEN");
        PROBE.shows(" C A L L S ( A , B ) ", "CALLS(A,B)");
        PROBE.shows(" P R I N T * , A , B ", "PRINT*,A,B");
        PROBE.shows(" L O G I C A L A , B ", "LOGICALA,B");
        PROBE.shows(" D I M E N S I O N A ( 1 ) , B ( 2 ) ", "DIMENSIONA(1),B(2)");
        PROBE.shows(" G O T O ( 1 , 2 ) , I ", "GOTO(1,2)I");
        for (String word : new String[] {"ELSE", "ENDIF", "CONTINUE", "RETURN", "STOP", "END", "INTEGERA", "REALA",
            "CALLS", "GOTO1"}) {
            PROBE.shows(word, word);
            PROBE.shows(word.replace("", " "), word);
        }
    }

    /** "of IF( the statement behind is shown, too." */
    private static void statementBehindAnIf() {
        String[] statements = {"X=A+B", "X((1))=(2)", "GOTO007", "CALLS((A))", "RETURN", "STOP", "PRINT*,(A),-B",
            "GOTO(01),(I)"};
        String[] want = {"X=(A+B)", "X(1)=2", "GOTO7", "CALLS(A)", "RETURN", "STOP", "PRINT*,A,(-B)", "GOTO(1)I"};
        for (int i = 0; i < statements.length; i++) {
            PROBE.shows(statements[i], want[i]);
            PROBE.shows("IF(C)" + statements[i], "IF(C)" + want[i]);
            PROBE.shows("IF((C.OR.D))" + statements[i], "IF((C.OR.D))" + want[i]);
        }
    }

    /** "One that is NONE shows as its text." */
    private static void noneShowsAsItsText() {
        String[] texts = {"", "(A)", "X=(A", "X=((A)+(B)))", "DO010,I=(1)", "GOTO0001,2", "GOTO(007),", "IF((A))ELSE",
            "IF((A))DO01,I=1,2", "DIMENSIONA(007),B", "CALLS((A)),", "PRINT*,(A),", "ELSEIF((A))", "-(A)", "X='A",
            "X=-A+(B)*C**"};
        for (String text : texts) {
            PROBE.is(0, text);
            PROBE.shows(text, text);
        }
        PROBE.shows("X = ( A ", "X=(A");
        PROBE.shows("X = ' ( A ' )", "X=' ( A ')");
        Desk desk = new Desk();
        desk.card("      X=(A)+B");
        PROBE.due("as an assignment", "X=(A+B)", desk.shown(0));
        desk.card("     1)");
        PROBE.due("as none", "X=(A)+B)", desk.shown(0));
    }

    /** "Character k of a statement as it is shown; NONE if there is none." */
    private static void characterK() {
        Desk desk = new Desk();
        desk.card("      X=A+B");
        desk.card("00001");
        PROBE.due("shown(0, 0)", 'X', desk.ask().shown(0, 0));
        PROBE.due("shown(0, 2)", '(', desk.ask().shown(0, 2));
        PROBE.due("shown(0, 6), the last", ')', desk.ask().shown(0, 6));
        for (int k : new int[] {7, 8, 80, 81, 1000, -1, -2, Integer.MIN_VALUE, Integer.MAX_VALUE}) {
            PROBE.due("shown(0, " + k + ")", DeckFront.NONE, desk.ask().shown(0, k));
        }
        for (int k : new int[] {0, 1, -1, Integer.MIN_VALUE, Integer.MAX_VALUE}) {
            PROBE.due("shown(1, " + k + ") of no text", DeckFront.NONE, desk.ask().shown(1, k));
        }
        for (int statement : new int[] {-1, 2, 24, Integer.MIN_VALUE, Integer.MAX_VALUE}) {
            for (int k : new int[] {0, -1, Integer.MAX_VALUE}) {
                PROBE.due("shown(" + statement + ", " + k + ")", DeckFront.NONE, desk.ask().shown(statement, k));
            }
        }
        desk.ask().clear();
        PROBE.due("shown(0, 0) when cleared", DeckFront.NONE, desk.ask().shown(0, 0));
    }

    /** Texts of 80 characters, with the most brackets that they can be shown with. */
    private static void longest() {
        String sums = "X=" + "A+".repeat(38) + "AB";
        PROBE.shows(sums, "X=" + "(".repeat(38) + "A" + "+A)".repeat(37) + "+AB)");
        String powers = "X=" + "A**".repeat(25) + "ABC";
        PROBE.shows(powers, "X=" + "(A**".repeat(25) + "ABC" + ")".repeat(25));
        String nots = "X=" + ".NOT.".repeat(15) + "ABC";
        PROBE.shows(nots, "X=" + "(.NOT.".repeat(15) + "ABC" + ")".repeat(15));
        String quote = "X='" + "(".repeat(76) + "'";
        PROBE.shows(quote, quote);
        String none = "X=" + "(".repeat(78);
        PROBE.shows(none, none);
    }
}
