/** Promises 1 to 6: the new object, writing cards, joining them to the deck, and what the deck holds. */
public final class CardTest {
    private static final Probe PROBE = new Probe();

    public static void main(String[] args) {
        newObject();
        writing();
        refusedWrites();
        comments();
        labels();
        continuations();
        quotes();
        wrongLabels();
        noPlace();
        lengths();
        clearing();
        PROBE.end();
    }

    private static void newObject() {
        DeckFront deck = new DeckFront();
        PROBE.due("new: statements()", 0, deck.statements());
        PROBE.due("new: fault()", 0, deck.fault());
        PROBE.due("new: faultAt()", DeckFront.NONE, deck.faultAt());
        PROBE.due("new: label(0)", DeckFront.NONE, deck.label(0));
        PROBE.due("new: shown(0, 0)", DeckFront.NONE, deck.shown(0, 0));
        PROBE.due("new: kind", 0, deck.kind(Probe.word("A")));
        PROBE.due("new: card() of the empty card", DeckFront.NONE, Probe.join(deck));
        PROBE.due("NONE", -1, DeckFront.NONE);
    }

    private static void writing() {
        DeckFront deck = new DeckFront();
        PROBE.due("write(0)", true, deck.write(0));
        PROBE.due("zeros between", true, deck.write(0x2000202020000020L));
        PROBE.due("zeros behind", true, deck.write(0x2058003D31000000L));
        PROBE.due("card()", 0, Probe.join(deck));
        PROBE.due("the signs that are not 0", "X=1", Probe.shown(deck, 0));
        PROBE.due("card() leaves an empty card", DeckFront.NONE, Probe.join(deck));

        String all = "ABCDEFGHIJKLMNOPQRSTUVWXYZ0123456789=+-*/(),.'  '";
        PROBE.due("every sign", true, Probe.write(deck, "      " + all));
        PROBE.due("its card", 1, Probe.join(deck));
        PROBE.due("every sign shown", all, Probe.shown(deck, 1));
    }

    private static void refusedWrites() {
        for (int sign = 1; sign < 256; sign++) {
            boolean good = sign < 128 && "ABCDEFGHIJKLMNOPQRSTUVWXYZ0123456789 =+-*/(),.'".indexOf(sign) >= 0;
            for (int shift = 0; shift < 64; shift += 8) {
                DeckFront deck = new DeckFront();
                PROBE.due("write of " + sign, good, deck.write((long) sign << shift));
            }
        }
        DeckFront deck = new DeckFront();
        Probe.write(deck, "      X=");
        PROBE.due("a wrong sign behind good ones", false, deck.write(Probe.word("1234567a")));
        PROBE.due("a wrong sign before good ones", false, deck.write(Probe.word("$1")));
        PROBE.due("what stands", true, deck.write(Probe.word("9")));
        PROBE.due("card()", 0, Probe.join(deck));
        PROBE.due("nothing of the refused", "X=9", Probe.shown(deck, 0));

        Probe.write(deck, "      " + "X=1" + "+1".repeat(30) + "+");
        PROBE.due("column 71 and 72 and 73", false, deck.write(Probe.word("234")));
        PROBE.due("column 71", true, deck.write(Probe.word("2")));
        PROBE.due("column 72 and 73", false, deck.write(Probe.word("34")));
        PROBE.due("column 72", true, deck.write(Probe.word("5")));
        PROBE.due("column 73", false, deck.write(Probe.word("6")));
        PROBE.due("nothing on a full card", true, deck.write(0));
        PROBE.due("the full card", 1, Probe.join(deck));
        PROBE.due("what it is", 2, deck.what(1));
        int end = Probe.shown(deck, 1).length();
        PROBE.due("its last sign but one", '5', deck.shown(1, end - 2));
    }

    private static void comments() {
        DeckFront deck = new DeckFront();
        String[] comments = {"", " ", "      ", " ".repeat(72), "C", "*", "C     X=1", "*     X=1", "CALL S", "C    1"};
        for (String comment : comments) {
            PROBE.due("card of '" + comment + "'", DeckFront.NONE, Probe.card(deck, comment));
        }
        PROBE.due("statements()", 0, deck.statements());
        PROBE.due("C in column 2", Probe.ARGUMENT, Probe.card(deck, " C"));
        Probe.card(deck, "      X=1");
        Probe.card(deck, "C     between");
        Probe.card(deck, "C BETWEEN");
        PROBE.due("continued behind a comment", 0, Probe.card(deck, "     1+2"));
        PROBE.due("joined", "X=(1+2)", Probe.shown(deck, 0));
    }

    private static void labels() {
        DeckFront deck = new DeckFront();
        String[] cards = {"10", "    0", "00000", "1 2 3 X=1", "99999 X=1", "00007 X=1", "     0X=1", "5    0X=1",
            "      X=1", "    5 X=1", "1", "     0"};
        int[] labels = {10, 0, 0, 123, 99999, 7, 0, 5, 0, 5, 1, 0};
        for (int i = 0; i < cards.length; i++) {
            PROBE.due("card of '" + cards[i] + "'", i, Probe.card(deck, cards[i]));
            PROBE.due("statements()", i + 1, deck.statements());
            PROBE.due("label of '" + cards[i] + "'", labels[i], deck.label(i));
        }
        for (int columns = 1; columns <= 5; columns++) {
            Probe.card(deck, "98765 X=1");
            PROBE.due("nothing of the card before", 12345 / (int) Math.pow(10, 5 - columns),
                    deck.label(Probe.card(deck, "12345".substring(0, columns))));
            PROBE.due("a short card of blanks", DeckFront.NONE, Probe.card(deck, "     ".substring(0, columns)));
        }
        PROBE.due("a label and no text is none of them", 0, deck.what(0));
        PROBE.due("no text shown", "", Probe.shown(deck, 0));
        PROBE.due("column 6 is no text", "X=1", Probe.shown(deck, 6));
        for (int statement : new int[] {-1, cards.length + 10, 24, Integer.MIN_VALUE, Integer.MAX_VALUE}) {
            PROBE.due("label(" + statement + ")", DeckFront.NONE, deck.label(statement));
        }
    }

    private static void continuations() {
        DeckFront deck = new DeckFront();
        Probe.card(deck, "   10 X =");
        for (String sign : "1 9 A C * ' ( - =".split(" ")) {
            PROBE.due("column 6 is " + sign, 0, Probe.card(deck, "     " + sign + " 1 +"));
        }
        PROBE.due("with no text", 0, Probe.card(deck, "     1"));
        PROBE.due("still no assignment", 0, deck.what(0));
        Probe.card(deck, "     11");
        PROBE.due("statements()", 1, deck.statements());
        PROBE.due("the label stays", 10, deck.label(0));
        PROBE.due("now it is one", 2, deck.what(0));
        PROBE.due("joined", "X=(((((((((1+1)+1)+1)+1)+1)+1)+1)+1)+1)", Probe.shown(deck, 0));
        PROBE.due("the next", 1, Probe.card(deck, "     0X=1"));
        PROBE.due("the next goes on", 1, Probe.card(deck, "     1+1"));
    }

    private static void quotes() {
        DeckFront deck = new DeckFront();
        Probe.card(deck, "      X = ' A  B ' ");
        PROBE.due("blanks in quotes stay", "X=' A  B '", Probe.shown(deck, 0));
        Probe.card(deck, "      X = F ( ' A' , ' B ' )");
        PROBE.due("blanks between quotes go", "X=F(' A',' B ')", Probe.shown(deck, 1));
        Probe.card(deck, "      X = 'A  ");
        PROBE.due("a quote that is open is none", 0, deck.what(2));
        Probe.card(deck, "     1  B' . EQ . Y");
        PROBE.due("a quote goes on", 2, deck.what(2));
        PROBE.due("with the blanks of both cards", "X=('A    B'.EQ.Y)", Probe.shown(deck, 2));
        Probe.card(deck, "      X = 1");
        PROBE.due("a new one begins outside of quotes", "X=1", Probe.shown(deck, 3));
    }

    private static void wrongLabels() {
        DeckFront deck = new DeckFront();
        String[] wrong = {"X", "    X", "  X   I=1", "1   - X=1", "1    1X", "0    1X", "    51X", "X    1X",
            "  ,  1", "    =", "A=1", "12345X=1"};
        for (String columns : wrong) {
            PROBE.due("nothing there: '" + columns + "'", Probe.ARGUMENT, Probe.card(deck, columns));
            PROBE.due("empty then", DeckFront.NONE, Probe.join(deck));
        }
        PROBE.due("the deck stays", 0, deck.statements());
        Probe.card(deck, "      X=1");
        for (String columns : wrong) {
            PROBE.due("one there: '" + columns + "'", Probe.ARGUMENT, Probe.card(deck, columns));
        }
        PROBE.due("the deck stays", 1, deck.statements());
        PROBE.due("its text stays", "X=1", Probe.shown(deck, 0));
    }

    private static void noPlace() {
        DeckFront deck = new DeckFront();
        PROBE.due("continues nothing", Probe.STATE, Probe.card(deck, "     1X=1"));
        PROBE.due("empty then", DeckFront.NONE, Probe.join(deck));
        for (int i = 0; i < 24; i++) {
            PROBE.due("statement " + i, i, Probe.card(deck, "      X=" + i));
        }
        PROBE.due("one more", Probe.STATE, Probe.card(deck, "      X=1"));
        PROBE.due("empty then", DeckFront.NONE, Probe.join(deck));
        PROBE.due("a wrong label counts first", Probe.ARGUMENT, Probe.card(deck, "X     X=1"));
        PROBE.due("a comment has place", DeckFront.NONE, Probe.card(deck, "C"));
        PROBE.due("and what continues", 23, Probe.card(deck, "     1+1"));
        PROBE.due("statements()", 24, deck.statements());
        PROBE.due("the last", "X=(23+1)", Probe.shown(deck, 23));
        deck.clear();
        PROBE.due("a cleared one is not continued", Probe.STATE, Probe.card(deck, "     1X=1"));
        PROBE.due("a wrong label counts first", Probe.ARGUMENT, Probe.card(deck, "1    1X=1"));
        PROBE.due("the first again", 0, Probe.card(deck, "      X=1"));
    }

    private static void lengths() {
        DeckFront deck = new DeckFront();
        String text = "X=1" + "+1".repeat(31);
        Probe.card(deck, "      " + text);
        PROBE.due("to 80 signs with blanks", 0, Probe.card(deck, "     1" + " + 1".repeat(7)));
        PROBE.due("81 signs", Probe.STATE, Probe.card(deck, "     1+1"));
        PROBE.due("the deck stays", 2, deck.what(0));
        PROBE.due("80 signs", 0, Probe.card(deck, "     11"));
        PROBE.due("blanks only", 0, Probe.card(deck, "     1 "));
        PROBE.due("one more", Probe.STATE, Probe.card(deck, "     1 1"));
        PROBE.due("a wrong label counts first", Probe.ARGUMENT, Probe.card(deck, "1    11"));
        String shown = Probe.shown(deck, 0);
        PROBE.due("all is shown", 80 + 2 * 38, shown.length());

        PROBE.due("the next", 1, Probe.card(deck, "      X='" + " ".repeat(60)));
        PROBE.due("blanks in quotes count", Probe.STATE, Probe.card(deck, "     1" + " ".repeat(17) + "'"));
        PROBE.due("the quote is as open as before", 1, Probe.card(deck, "     1" + " ".repeat(16) + "'"));
        PROBE.due("80 signs with blanks", 2, deck.what(1));
        PROBE.due("too long by a card with a quote in it", Probe.STATE, Probe.card(deck, "     1'"));
        PROBE.due("still outside of quotes", 1, Probe.card(deck, "     1   "));
    }

    private static void clearing() {
        DeckFront deck = Probe.deck("INTEGER X", "DIMENSION A(5)", "10:X=1");
        Probe.write(deck, "      Y=");
        deck.clear();
        PROBE.due("statements()", 0, deck.statements());
        PROBE.due("what(0)", DeckFront.NONE, deck.what(0));
        PROBE.due("label(2)", DeckFront.NONE, deck.label(2));
        PROBE.due("shown(0, 0)", DeckFront.NONE, deck.shown(0, 0));
        PROBE.due("kind", 0, deck.kind(Probe.word("A")));
        PROBE.due("type", 2, deck.type(Probe.word("X")));
        PROBE.due("fault()", 0, deck.fault());
        PROBE.due("faultAt()", DeckFront.NONE, deck.faultAt());
        deck.write(Probe.word("2"));
        PROBE.due("the card stays", 0, Probe.join(deck));
        PROBE.due("with what was on it", "Y=2", Probe.shown(deck, 0));
        PROBE.due("and no old label", 0, deck.label(0));
        deck.clear();
        deck.clear();
        Probe.add(deck, "ZZ TOP AND MORE OF IT");
        PROBE.due("no marks of old ones", "ZZTOPANDMOREOFIT", Probe.shown(deck, 0));
        deck.clear();
        Probe.add(deck, "X='A");
        deck.clear();
        Probe.add(deck, "X = 1");
        PROBE.due("no quote of old ones", "X=1", Probe.shown(deck, 0));
        clearedRowsAreAsNew();
    }

    /** Each beginning of a statement, behind the whole of it on the same row, against a new object. */
    private static void clearedRowsAreAsNew() {
        String[] texts = {"X='A'+B(1)", "GOTO12345", "DO00123I=(A+B)*C,-D,E**F**G", "CALLABCDEF(A,B)", "ABCDEF=1.5E10",
            "DIMENSIONA(123),B(4)", "REALABC,DEF", "IF(.NOT..NOT.A)GOTO(010,20),(I)", "PRINT*,((A)+(B))"};
        for (String text : texts) {
            for (int end = 0; end <= text.length(); end++) {
                DeckFront used = Probe.deck("12345:" + text);
                used.clear();
                Probe.add(used, text.substring(0, end));
                DeckFront fresh = Probe.deck(text.substring(0, end));
                String call = " of " + text.substring(0, end) + " behind " + text;
                PROBE.due("what" + call, fresh.what(0), used.what(0));
                PROBE.due("shown" + call, Probe.shown(fresh, 0), Probe.shown(used, 0));
                PROBE.due("label" + call, 0, used.label(0));
                PROBE.due("fault" + call, fresh.fault(), used.fault());
                for (String name : "A B C I X ABC ABCDEF ABCDE DEF".split(" ")) {
                    PROBE.due("kind of " + name + call, fresh.kind(Probe.word(name)), used.kind(Probe.word(name)));
                }
            }
        }
    }
}
