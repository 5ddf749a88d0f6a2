/**
 * The boundaries of the card: the sentences of 'Terms' on the card, and promises 1 and 2. Each method has the
 * sentence that it is for, and asks for both sides of the boundary.
 */
public final class CardEdgeTest {
    private static final Probe PROBE = new Probe();
    private static final String SIGNS = "ABCDEFGHIJKLMNOPQRSTUVWXYZ0123456789 =+-*/(),.'";
    private static final String BLANK_LABEL = "      ";

    public static void main(String[] args) {
        newObject();
        lastOfTheCalls();
        signsOfACard();
        wrongSignChangesNothing();
        columns72();
        noRoomChangesNothing();
        upToEight();
        zerosAreNoSigns();
        columnOneOfAComment();
        allBlank();
        commentsAreNotLookedAt();
        labelField();
        labelOfDigits();
        columnSix();
        columnSeven();
        PROBE.end();
    }

    /** "An empty card, an empty deck." */
    private static void newObject() {
        Desk desk = new Desk();
        String nothing = "statements 0; A 0 2; F 0 2; I 0 1; X 0 2; ABCDEF 0 2; fault 0 -1";
        PROBE.due("a new object's deck", nothing, desk.seen());
        PROBE.due("a new object's card", DeckFront.NONE, desk.join());
        PROBE.due("a new object's card, with a sign", Probe.ARGUMENT, desk.card("X"));
        PROBE.due("objects share nothing", 0, new Desk().card(BLANK_LABEL + "X=1"));
        PROBE.due("objects share nothing", 0, desk.ask().statements());
    }

    /** "An object is used for at most 512 calls after it has been made": the 512th is as good as the first. */
    private static void lastOfTheCalls() {
        Desk asked = busyTo(511);
        PROBE.due("fault(), the last call", 7, asked.ask().fault());
        PROBE.due("calls made", Desk.MOST_CALLS, asked.calls());
        Desk joined = busyTo(511 - 1);
        joined.write("12345");
        PROBE.due("card(), the last call", 1, joined.join());
        PROBE.due("calls made", Desk.MOST_CALLS, joined.calls());
    }

    /** An object with one statement that has had so many calls, of every kind. */
    private static Desk busyTo(int calls) {
        Desk desk = new Desk();
        desk.card(BLANK_LABEL + "A=1");
        desk.ask().clear();
        desk.card(BLANK_LABEL + "X=F(1)");
        while (desk.calls() + 10 <= calls) {
            PROBE.due("statements()", 1, desk.ask().statements());
            PROBE.due("label(0)", 0, desk.ask().label(0));
            PROBE.due("what(0)", 2, desk.ask().what(0));
            PROBE.due("shown(0, 2)", 'F', desk.ask().shown(0, 2));
            PROBE.due("kind of F", 3, desk.ask().kind('F'));
            PROBE.due("type of F", 2, desk.ask().type('F'));
            PROBE.due("fault()", 7, desk.ask().fault());
            PROBE.due("faultAt()", 0, desk.ask().faultAt());
            PROBE.due("a card of blanks", DeckFront.NONE, desk.card("  "));
        }
        while (desk.calls() < calls) {
            desk.ask().write(0);
        }
        return desk;
    }

    /** "letters A .. Z, digits, blank and = + - * / ( ) , . ' only": of every code, in each of the eight places. */
    private static void signsOfACard() {
        for (int code = 1; code < 256; code++) {
            boolean good = SIGNS.indexOf(code) >= 0;
            for (int shift = 0; shift < 64; shift += 8) {
                PROBE.due("write of code " + code, good, new Desk().ask().write((long) code << shift));
            }
        }
        for (char neighbour : "@[/:!\"#$%&;<>?`abcxyz{\u007f\u0080\u00a0\u00c1\u00ff".toCharArray()) {
            boolean good = neighbour == '/';
            PROBE.due("write of " + neighbour, good, new Desk().ask().write(neighbour));
        }
        PROBE.due("write(-1)", false, new Desk().ask().write(-1));
        PROBE.due("write of the least number", false, new Desk().ask().write(Long.MIN_VALUE));
    }

    /** "False, changing nothing, if one of the others is none that a card may have". */
    private static void wrongSignChangesNothing() {
        String eight = "X=123456";
        for (int place = 0; place < 8; place++) {
            Desk desk = new Desk();
            desk.write(BLANK_LABEL);
            String wrong = eight.substring(0, place) + ';' + eight.substring(place + 1);
            PROBE.due("write of " + wrong, false, desk.ask().write(Probe.word(wrong)));
            PROBE.due("write of " + eight, true, desk.ask().write(Probe.word(eight)));
            PROBE.due("card() behind " + wrong, 0, desk.join());
            PROBE.due("shown behind " + wrong, eight, desk.shown(0));
        }
        Desk empty = new Desk();
        PROBE.due("a good sign and a wrong one", false, empty.ask().write(Probe.word("1;")));
        PROBE.due("the card is as empty as before", DeckFront.NONE, empty.join());
    }

    /** "THE CARD has at most 72 characters". */
    private static void columns72() {
        for (int written = 64; written <= 72; written++) {
            for (int more = 0; more <= 8; more++) {
                Desk desk = new Desk();
                PROBE.due("the first " + written, true, desk.write(BLANK_LABEL + "1".repeat(written - 6)));
                boolean good = written + more <= 72;
                PROBE.due(more + " behind " + written, good, desk.ask().write(Probe.word("2".repeat(more))));
                PROBE.due("card()", 0, desk.join());
                PROBE.due("its text", "1".repeat(written - 6) + "2".repeat(good ? more : 0), desk.shown(0));
            }
        }
    }

    /** "False, changing nothing, if .. they are more than there is room for." */
    private static void noRoomChangesNothing() {
        Desk desk = new Desk();
        desk.write(BLANK_LABEL + "1".repeat(63));
        PROBE.due("4 for 3", false, desk.ask().write(Probe.word("2345")));
        PROBE.due("2 for 3", true, desk.ask().write(Probe.word("67")));
        PROBE.due("2 for 1", false, desk.ask().write(Probe.word("89")));
        PROBE.due("1 for 1", true, desk.ask().write(Probe.word("9")));
        PROBE.due("1 for 0", false, desk.ask().write(Probe.word("5")));
        PROBE.due("a wrong one for 0", false, desk.ask().write(Probe.word(";")));
        PROBE.due("none for 0", true, desk.ask().write(0));
        PROBE.due("card()", 0, desk.join());
        PROBE.due("its text", "1".repeat(63) + "679", desk.shown(0));
        PROBE.due("there is room again", true, desk.write(" ".repeat(72)));
        PROBE.due("and an end again", false, desk.ask().write(Probe.word(" ")));
    }

    /** "Appends up to eight characters .., the codes of which are the eight bytes of w from the highest on". */
    private static void upToEight() {
        Desk desk = new Desk();
        desk.write(BLANK_LABEL);
        PROBE.due("eight", true, desk.ask().write(0x4142434445464748L));
        PROBE.due("one", true, desk.ask().write(0x49L));
        PROBE.due("one, highest", true, desk.ask().write(0x4A00000000000000L));
        desk.join();
        PROBE.due("in their order", "ABCDEFGHIJ", desk.shown(0));
    }

    /** "but for those that are 0: true." */
    private static void zerosAreNoSigns() {
        Desk desk = new Desk();
        PROBE.due("zeros only", true, desk.ask().write(0));
        PROBE.due("still an empty card", DeckFront.NONE, desk.join());
        desk.write(BLANK_LABEL);
        PROBE.due("zeros between and round", true, desk.ask().write(0x0041004200430000L));
        PROBE.due("zeros and a wrong sign", false, desk.ask().write(0x4100000000000001L));
        desk.join();
        PROBE.due("zeros take no column", "ABC", desk.shown(0));
        desk.write(BLANK_LABEL + "1".repeat(65));
        PROBE.due("one sign and seven zeros for one column", true, desk.ask().write(0x0000000000320000L));
    }

    private static boolean isLabelSign(char sign) {
        return sign >= '0' && sign <= '9' || sign == ' ';
    }

    /** "It is a COMMENT if column 1 is C or *". */
    private static void columnOneOfAComment() {
        for (char sign : SIGNS.toCharArray()) {
            Desk desk = new Desk();
            boolean comment = sign == 'C' || sign == '*';
            int want = comment ? DeckFront.NONE : isLabelSign(sign) ? 0 : Probe.ARGUMENT;
            PROBE.due("column 1 is " + sign, want, desk.card(sign + "     X=1"));
            PROBE.due("statements behind it", want == 0 ? 1 : 0, desk.ask().statements());
        }
        for (int column = 2; column <= 5; column++) {
            PROBE.due("C in column " + column, Probe.ARGUMENT, new Desk().card(" ".repeat(column - 1) + "C"));
            PROBE.due("* in column " + column, Probe.ARGUMENT, new Desk().card(" ".repeat(column - 1) + "*"));
        }
        PROBE.due("C in column 6", Probe.STATE, new Desk().card("     C"));
        PROBE.due("* in column 6", Probe.STATE, new Desk().card("     *"));
        PROBE.due("C in column 7", 0, new Desk().card("      C"));
        PROBE.due("C alone", DeckFront.NONE, new Desk().card("C"));
        PROBE.due("* alone", DeckFront.NONE, new Desk().card("*"));
        PROBE.due("C and 71 behind", DeckFront.NONE, new Desk().card("C" + "X".repeat(71)));
    }

    /** "or it is all blank." */
    private static void allBlank() {
        for (int columns = 0; columns <= 72; columns++) {
            Desk desk = new Desk();
            PROBE.due(columns + " blanks", DeckFront.NONE, desk.card(" ".repeat(columns)));
            PROBE.due("statements behind them", 0, desk.ask().statements());
        }
        for (int columns = 0; columns < 72; columns++) {
            Desk desk = new Desk();
            int want = columns == 5 ? Probe.STATE : 0;
            PROBE.due(columns + " blanks and a 7", want, desk.card(" ".repeat(columns) + "7"));
            PROBE.due("statements behind it", want == 0 ? 1 : 0, desk.ask().statements());
        }
        PROBE.due("a 0 in column 6 is not blank", 0, new Desk().card("     0"));
        PROBE.due("a 0 in column 1 is not blank", 0, new Desk().card("0"));
    }

    /** "Otherwise columns 1 to 5 are the LABEL": of a comment nothing is, so it is never refused. */
    private static void commentsAreNotLookedAt() {
        Desk desk = new Desk();
        PROBE.due("letters in its label field", DeckFront.NONE, desk.card("CXYZW X=1"));
        PROBE.due("a sign in column 6 and no statement", DeckFront.NONE, desk.card("C    1X=1"));
        PROBE.due("digits and a sign in column 6", DeckFront.NONE, desk.card("*10  1X=1"));
        desk.card(BLANK_LABEL + "X=1");
        String before = desk.seen();
        PROBE.due("a comment between", DeckFront.NONE, desk.card("C    1+2"));
        PROBE.due("a blank card between", DeckFront.NONE, desk.card(" ".repeat(72)));
        PROBE.due("the deck is the same", before, desk.seen());
        PROBE.due("what is behind continues the one before", 0, desk.card("     1+2"));
        PROBE.due("continued", "X=(1+2)", desk.shown(0));
    }

    /** "columns 1 to 5 are the LABEL: digits and blanks". */
    private static void labelField() {
        for (char sign : SIGNS.toCharArray()) {
            boolean good = isLabelSign(sign);
            for (int column = 2; column <= 5; column++) {
                String field = "1    ".substring(0, column - 1) + sign + "    ".substring(0, 5 - column);
                PROBE.due("label field " + field, good ? 0 : Probe.ARGUMENT, new Desk().card(field + " X=1"));
                String cut = "1    ".substring(0, column - 1) + sign;
                PROBE.due("label field " + cut + ", no more", good ? 0 : Probe.ARGUMENT, new Desk().card(cut));
            }
        }
    }

    /** "the number that the digits are (0 or no digits: none)". */
    private static void labelOfDigits() {
        String[] fields = {"     ", "0    ", "    0", "00000", "0 0 0", "1    ", "    1", "00001", "10000", "1 0 0",
            "09999", "99999", "9   9", " 12 3", "90909"};
        int[] want = {0, 0, 0, 0, 0, 1, 1, 1, 10000, 100, 9999, 99999, 99, 123, 90909};
        for (int i = 0; i < fields.length; i++) {
            Desk desk = new Desk();
            PROBE.due("card with label field " + fields[i], 0, desk.card(fields[i] + " X=1"));
            PROBE.due("label of " + fields[i], want[i], desk.ask().label(0));
            PROBE.due("its text", "X=1", desk.shown(0));
        }
        for (int columns = 1; columns <= 5; columns++) {
            Desk desk = new Desk();
            PROBE.due("a card of " + columns + " columns", 0, desk.card("98765".substring(0, columns)));
            PROBE.due("its label", Integer.parseInt("98765".substring(0, columns)), desk.ask().label(0));
            PROBE.due("its text", "", desk.shown(0));
        }
    }

    /** "column 6, if there is one: blank or 0 begins a statement, anything else CONTINUES the one before". */
    private static void columnSix() {
        for (char sign : SIGNS.toCharArray()) {
            boolean begins = sign == ' ' || sign == '0';
            Desk desk = new Desk();
            desk.card(BLANK_LABEL + "X=1");
            PROBE.due("column 6 is " + sign, begins ? 1 : 0, desk.card("     " + sign + "+2"));
            PROBE.due("statements", begins ? 2 : 1, desk.ask().statements());
            PROBE.due("the first", begins ? "X=1" : "X=(1+2)", desk.shown(0));
            int alone = new Desk().card("     " + sign + "+2");
            PROBE.due("column 6 is " + sign + " behind nothing", begins ? 0 : Probe.STATE, alone);
        }
        Desk desk = new Desk();
        PROBE.due("5 columns, no column 6", 0, desk.card("00012"));
        PROBE.due("6 columns, a blank", 1, desk.card("00013 "));
        PROBE.due("6 columns, a 0", 2, desk.card("000140"));
        PROBE.due("6 columns, a 1", 2, desk.card("     1"));
        PROBE.due("a digit of column 6 is not the label's", 14, desk.ask().label(2));
    }

    /** "Columns 7 and on are TEXT." */
    private static void columnSeven() {
        Desk desk = new Desk();
        desk.card("12345 A" + " ".repeat(64) + "B");
        PROBE.due("column 7 and column 72", "AB", desk.shown(0));
        desk.card("123450C");
        PROBE.due("not column 6", "C", desk.shown(1));
        desk.card("     1D");
        PROBE.due("not column 6 of what continues", "CD", desk.shown(1));
        desk.card("     1");
        PROBE.due("no column 7", "CD", desk.shown(1));
    }
}
