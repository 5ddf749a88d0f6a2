/** The example of README.md, call by call: an answer that changes here changes there. */
public final class UseTest {
    private static final Probe PROBE = new Probe();

    public static void main(String[] args) {
        Desk desk = new Desk();
        cards(desk);
        statements(desk);
        names(desk);
        refused(desk);
        PROBE.end();
    }

    private static void cards(Desk desk) {
        PROBE.due("a comment", DeckFront.NONE, desk.card("C     SUMS"));
        PROBE.due("DIMENSION", 0, desk.card("      DIMENSION A(005)"));
        PROBE.due("DO", 1, desk.card("      DO 10, I = 1, 5"));
        PROBE.due("an assignment", 2, desk.card("      A(I) = B + C *"));
        PROBE.due("its second card", 2, desk.card("     1       F(I)"));
        PROBE.due("CONTINUE", 3, desk.card("   10 CONTINUE"));
        PROBE.due("fault() without END", 7, desk.ask().fault());
        PROBE.due("faultAt() without END", 3, desk.ask().faultAt());
        PROBE.due("END", 4, desk.card("      END"));
        PROBE.due("fault()", 0, desk.ask().fault());
        PROBE.due("faultAt()", DeckFront.NONE, desk.ask().faultAt());
    }

    private static void statements(Desk desk) {
        PROBE.due("statements()", 5, desk.ask().statements());
        PROBE.due("label(3)", 10, desk.ask().label(3));
        PROBE.due("label(2)", 0, desk.ask().label(2));
        PROBE.due("label(5)", DeckFront.NONE, desk.ask().label(5));
        PROBE.due("what(1)", 1, desk.ask().what(1));
        PROBE.due("what(2)", 2, desk.ask().what(2));
        PROBE.due("shown(2, 5)", '(', desk.ask().shown(2, 5));
        String[] want = {"DIMENSIONA(5)", "DO10I=1,5", "A(I)=(B+(C*F(I)))", "CONTINUE", "END"};
        for (int i = 0; i < want.length; i++) {
            PROBE.due("shown of " + i, want[i], desk.shown(i));
        }
    }

    private static void names(Desk desk) {
        PROBE.due("kind of A", 1, desk.ask().kind('A'));
        PROBE.due("kind of F", 3, desk.ask().kind('F'));
        PROBE.due("kind of B", 4, desk.ask().kind('B'));
        PROBE.due("kind of Z", 0, desk.ask().kind('Z'));
        PROBE.due("type of I", 1, desk.ask().type('I'));
        PROBE.due("type of Z", 2, desk.ask().type('Z'));
        PROBE.due("type of 9", 0, desk.ask().type('9'));
    }

    private static void refused(Desk desk) {
        PROBE.due("a sign that no card has", false, desk.ask().write(';'));
        PROBE.due("a letter in the label field", Probe.ARGUMENT, desk.card("  X   I=1"));
        desk.ask().clear();
        PROBE.due("nothing to continue", Probe.STATE, desk.card("     1+1"));
        PROBE.due("statements() when cleared", 0, desk.ask().statements());
    }
}
