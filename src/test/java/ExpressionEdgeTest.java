/** The boundaries of expressions: numbers, quotes, how often signs may stand, and how deep brackets may. */
public final class ExpressionEdgeTest {
    private static final Probe PROBE = new Probe();
    private static final String[] RELATIONS = {".LT.", ".LE.", ".EQ.", ".NE.", ".GT.", ".GE."};
    private static final String[] WORDS = {".OR.", ".AND.", ".LT.", ".LE.", ".EQ.", ".NE.", ".GT.", ".GE."};

    /** Texts that are expressions: in brackets, in lists and alone. */
    private static void good(String... expressions) {
        for (String expression : expressions) {
            PROBE.is(2, "X=" + expression, "X=(" + expression + ")", "A(" + expression + ")=F(1," + expression + ")");
            PROBE.is(3, "IF(" + expression + ")THEN");
            PROBE.is(13, "PRINT*," + expression);
        }
    }

    /** Texts that are none. */
    private static void wrong(String... expressions) {
        for (String expression : expressions) {
            PROBE.is(0, "X=" + expression, "X=(" + expression + ")", "A(" + expression + ")=1",
                    "X=F(1," + expression + ")");
            PROBE.is(0, "IF(" + expression + ")THEN", "PRINT*," + expression);
        }
    }

    public static void main(String[] args) {
        operands();
        notBeforeAnyNumber();
        relationOnce();
        oneSignBeforeTheFirst();
        powers();
        primaries();
        wholeNumbers();
        periodBeforeAWord();
        periodAndDigits();
        exponents();
        asLongAsItCanBe();
        quotes();
        eightBrackets();
        eightBracketsOfStatements();
        PROBE.end();
    }

    /** ".OR. between; .AND. between; .. between two": there is an operand on each side. */
    private static void operands() {
        for (String sign : new String[] {".OR.", ".AND.", ".LT.", ".LE.", ".EQ.", ".NE.", ".GT.", ".GE.", "*", "/",
            "**"}) {
            good("A" + sign + "B");
            wrong("A" + sign, sign + "A", sign, "A" + sign + "/B", sign + sign, "(A" + sign + ")B");
            // Of * two make another sign.
            PROBE.is(sign.equals("*") ? 2 : 0, "X=A" + sign + sign + "B");
        }
        for (String sign : new String[] {".OR.", ".AND.", "+", "-", "*", "/", "**"}) {
            good("A" + sign + "B" + sign + "C");
        }
        wrong("A+", "A-", "A B C D E F G", "A.OR", "A.OR.B.", "A.OR..B", ".A.", "A.XOR.B", "A.EQV.B", "");
    }

    /** ".NOT. before (any number)". */
    private static void notBeforeAnyNumber() {
        good("A", ".NOT.A", ".NOT..NOT.A", ".NOT.".repeat(5) + "A", ".NOT.A.AND..NOT.B.OR..NOT.C", ".NOT.A.EQ.B",
                ".NOT.-A");
        wrong(".NOT.", "A.NOT.", "A.NOT.B", ".NOT.A.NOT.B", "A.EQ..NOT.B", "-.NOT.A", "A+.NOT.B", "A*.NOT.B",
                ".NOT.NOT.A");
        PROBE.is(2, "X=" + ".NOT.".repeat(15) + "ABC");
        PROBE.is(0, "X=" + ".NOT.".repeat(15));
    }

    /** "one of .LT. .LE. .EQ. .NE. .GT. .GE. between two, once". */
    private static void relationOnce() {
        for (String one : RELATIONS) {
            good("A" + one + "B", "(A" + one + "B)" + one + "C", "A" + one + "(B" + one + "C)",
                    "A" + one + "B.OR.C" + one + "D");
            for (String other : RELATIONS) {
                wrong("A" + one + "B" + other + "C");
                good("A" + one + "B.AND.C" + other + "D");
            }
        }
        wrong("A.EQ", "A.EQB", "A.LTE.B", "A.L.B", "A.EQ.", "A..EQ.B");
    }

    /** "+ - between, and perhaps one + or - before the first". */
    private static void oneSignBeforeTheFirst() {
        good("A", "-A", "+A", "-A-B", "+A+B-C", "-A*B", "-A**B", "-1", "-(-A)", "A.EQ.-B", "-A.EQ.+B", ".NOT.-A",
                "A-(-B)", "A*(-B)");
        wrong("--A", "+-A", "-+A", "++A", "A--B", "A+-B", "A-+B", "A*-B", "A/+B", "A**-B", "-", "+", "-*A");
    }

    /** "** between, from the right to the left". */
    private static void powers() {
        good("A**B", "A**B**C", "A*B**C", "A**B*C", "A**(-B)", "A**1.5", "A**B**C**D**E**F");
        wrong("A***B", "A****B", "A* *", "A**", "**A", "A**.NOT.B", "A**B**", "A**+B");
        PROBE.shows("X=A* *B* * C", "X=(A**(B**C))");
    }

    /** "a PRIMARY: a number, .TRUE., .FALSE., a name, a name with ( .. perhaps none ), a quote, ( an expression )." */
    private static void primaries() {
        good("1", ".TRUE.", ".FALSE.", "A", "A()", "A(1)", "A(1,2)", "A(B(),C(D()))", "'A'", "(A)", "((A))");
        wrong("()", "A(,)", "A(1,)", "A(,1)", "(A,B)", "A()B", "A()()", "(A)(B)", "(A)B", "A(1)(2)", "1(2)", "'A'(1)",
                "A'B'");
        wrong(".TRUE", "TRUE.", ".TRUE.A", ".TRUE.()", ".TRUE..FALSE.", ".T.", "A.TRUE.", "(A", "A)", "A(1", "A((1)");
    }

    /** "A NUMBER: digits; perhaps a period .., perhaps digits behind". */
    private static void wholeNumbers() {
        good("0", "1", "0000", "1234567890", "1.", "1.5", "1.0000", "00.00", "9".repeat(20));
        wrong("1A", "1.A", "1.5A", "1..", "1..5", "1.5.", "1.5.5", "1'A'");
        PROBE.is(2, "X=" + "9".repeat(78), "X=" + "9".repeat(77) + ".", "X=." + "9".repeat(77));
    }

    /** "(but not if letters and a period follow that are one of the words between periods here)". */
    private static void periodBeforeAWord() {
        for (String word : WORDS) {
            String letters = word.substring(1, word.length() - 1);
            good("1" + word + "2", "1." + word + "2", "1.5" + word + ".5", "1" + word + "2.", "1E5" + word + "A");
            wrong("1." + letters + "2", "1." + letters, "1." + letters + "A.2", "1..." + letters + ".2",
                    "1." + letters + "..2X");
            PROBE.shows("X=1" + word + "2", "X=(1" + word + "2)");
            PROBE.shows("X=1." + word + "2", "X=(1." + word + "2)");
            PROBE.shows("X=1" + word + ".2", "X=(1" + word + ".2)");
        }
        wrong("1.NOT.2", "1.TRUE.", "1.FALSE.", "1.TRUE.2", "1.XX.2", "1.E.2", "1.OR2", "1.O.2");
        good("1.AND..NOT.2", "1.OR..TRUE.", "1..OR..FALSE.");
    }

    /** "or a period and digits". */
    private static void periodAndDigits() {
        good(".5", ".0", ".12345", ".5.EQ..5", "A+.5", "-.5", ".5E3");
        wrong(".", "..5", ".5.", ".5.5", ".E5", ".A", "A.5", "-.");
    }

    /** "perhaps then E, perhaps + or -, digits." */
    private static void exponents() {
        good("1E5", "1E+5", "1E-5", "1.E5", "1.5E5", ".5E-5", "1E0", "1E99999", "1E5+E5", "1.E5.EQ.1E5", "1E5*A");
        wrong("1E", "1E+", "1E-", "1.E", "1.5E+", "1EA", "1E++5", "1E+-5", "1E5.", "1E5.5", "1E5E5", "1EE5", "E+5E",
                "1D5", "1E(5)");
        PROBE.shows("X=1E+5", "X=1E+5");
        PROBE.shows("X=E+5", "X=(E+5)");
        PROBE.shows("X=1E5+5", "X=(1E5+5)");
    }

    /** "It is as long as it can be." */
    private static void asLongAsItCanBe() {
        PROBE.shows("X=1.E5-1", "X=(1.E5-1)");
        PROBE.shows("X=1.E-5-1", "X=(1.E-5-1)");
        PROBE.shows("X=12.34E56+78", "X=(12.34E56+78)");
        PROBE.shows("X=1.E5.EQ.1.E5", "X=(1.E5.EQ.1.E5)");
        PROBE.shows("X=1 2 . 3 E + 4", "X=12.3E+4");
        wrong("1E5F", "12 A", "1.EQ2", "1.5EQ.2");
        PROBE.is(2, "DO10I=1.1");
        PROBE.is(1, "DO10I=1.,1", "DO10E5=1,2", "DO1E5=1.E5,1E5");
    }

    /** "A quote is from a ' to the next one." */
    private static void quotes() {
        good("''", "'A'", "' '", "'A'.EQ.''", "''.EQ.''", "'(,=)'", "'.OR.'", "'1E5'");
        wrong("'", "'A", "'''", "''''", "'A''B'", "''A", "A''", "'A'B'", "'A'1");
        PROBE.is(2, "X='" + "A".repeat(76) + "'");
        PROBE.is(0, "X='" + "A".repeat(77));
    }

    /** "Brackets .. are at most 8 deep in one another." */
    private static void eightBrackets() {
        String[] opens = {"(", "F(", "F(1,", "(1+", "(-(", "F(("};
        for (String open : opens) {
            int each = open.endsWith("((") || open.endsWith("-(") ? 2 : 1;
            PROBE.is(2, "X=" + open.repeat(8 / each) + "1" + ")".repeat(8));
            PROBE.is(0, "X=" + open.repeat(8 / each) + "(1)" + ")".repeat(8));
            PROBE.is(0, "X=" + open.repeat(8 / each) + "F()" + ")".repeat(8));
            PROBE.is(0, "X=(" + open.repeat(8 / each) + "1" + ")".repeat(9));
        }
        PROBE.is(2, "X=" + "F(".repeat(7) + "F()" + ")".repeat(7), "X=" + "(".repeat(7) + "F()" + ")".repeat(7));
        // Those behind one another, and those in quotes, are not in one another.
        String eight = "(".repeat(8) + "1" + ")".repeat(8);
        PROBE.is(2, "X=" + eight + "+" + eight + "*" + eight, "X=" + "(".repeat(8) + "'((('" + ")".repeat(8));
        PROBE.is(0, "X=" + eight + "+(" + eight + ")");
    }

    /** "(that of an IF or a call, too)". */
    private static void eightBracketsOfStatements() {
        String seven = "(".repeat(7) + "A" + ")".repeat(7);
        String eight = "(" + seven + ")";
        String nine = "(" + eight + ")";
        String[] inBrackets = {"IF(#)THEN", "IF(#)STOP", "ELSEIF(#)THEN", "CALLS(#)", "CALLS(1,#)", "A(#)=1",
            "A(1,#)=1"};
        int[] want = {3, 4, 5, 10, 10, 2, 2};
        for (int i = 0; i < want.length; i++) {
            PROBE.is(want[i], inBrackets[i].replace("#", seven));
            PROBE.is(0, inBrackets[i].replace("#", eight));
        }
        String[] outside = {"X=#", "DO1I=#,2", "DO1I=1,#", "DO1I=1,2,#", "PRINT*,#", "PRINT*,1,#", "GOTO(1)#",
            "IF(A)X=#", "IF(A)PRINT*,#", "IF(A)GOTO(1)#"};
        int[] are = {2, 1, 1, 1, 13, 13, 17, 4, 4, 4};
        for (int i = 0; i < are.length; i++) {
            PROBE.is(are[i], outside[i].replace("#", eight));
            PROBE.is(0, outside[i].replace("#", nine));
        }
        // What stands behind an IF's brackets does not stand in them.
        PROBE.is(4, "IF(" + seven + ")CALLS(" + seven + ")", "IF(" + seven + ")A(" + seven + ")=" + eight);
        PROBE.is(0, "IF(" + seven + ")CALLS(" + eight + ")", "IF(A)A(" + eight + ")=1");
    }
}
