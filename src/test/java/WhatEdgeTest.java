/**
 * The boundaries of what a statement is: the sentences of 'Terms' on names, quotes and the 18 things, and promise 7.
 * In each pair of lines the first is on one side of a boundary and the second on the other.
 */
public final class WhatEdgeTest {
    private static final Probe PROBE = new Probe();

    public static void main(String[] args) {
        signsInQuotes();
        namesOfSix();
        theFirstThatItIs();
        loops();
        assignments();
        ifThens();
        ifs();
        elseIfs();
        wordsAlone();
        goTos();
        calls();
        prints();
        types();
        dimensions();
        computedGoTos();
        noneOfThese();
        noSuchStatement();
        changedByACard();
        endOfAFullText();
        PROBE.end();
    }

    /** "BRACKETS, commas and = in quotes are none." */
    private static void signsInQuotes() {
        PROBE.is(2, "DO10I='1,2'");
        PROBE.is(1, "DO10I='1','2'", "DO10I='(',')'", "DO10I=',',',',','");
        PROBE.is(2, "X='('", "X=(')')", "X='='", "X='(((((((((('", "A('=')='='", "X=F(',')");
        PROBE.is(0, "X='('(", "X=(')'", "X='='=1", "'X='1", "X=1','2");
        PROBE.is(3, "IF('(')THEN", "IF(')THEN')THEN");
        PROBE.is(0, "IF(')THEN'", "IF(A')'THEN", "IF('A)THEN");
        PROBE.is(4, "IF(')')X='='", "IF('=')STOP");
        PROBE.is(0, "IF(A)'X=1'", "IF(A)X'='1");
    }

    /** "A NAME is a letter and up to 5 letters or digits", wherever one stands. */
    private static void namesOfSix() {
        String[] places = {"#=1", "#(1)=1", "X=#", "X=#(1)", "X=#()", "DO10#=1,2", "CALL#", "CALL#(1)", "REAL#",
            "REALA,#", "INTEGER#,A", "LOGICAL#", "DIMENSION#(1)", "DIMENSIONA(1),#(2)", "PRINT*,#", "IF(#)THEN",
            "GOTO(1)#"};
        int[] want = {2, 2, 2, 2, 2, 1, 10, 10, 15, 15, 15, 15, 16, 16, 13, 3, 17};
        for (int i = 0; i < places.length; i++) {
            for (String name : new String[] {"A", "Z", "B9", "A0", "ABCDEF", "Z12345", "A1B2C3", "AAAAA9"}) {
                PROBE.is(want[i], places[i].replace("#", name));
            }
            for (String name : new String[] {"ABCDEFG", "Z123456", "ABCDEF7", "A.B", "A'", "'A'B"}) {
                PROBE.is(0, places[i].replace("#", name));
            }
        }
        PROBE.is(0, "1=1", "9A=1", "CALL1A", "REAL1A", "DIMENSION1A(1)", "X=1A", "=1");
    }

    /** "the first of these that it is". */
    private static void theFirstThatItIs() {
        PROBE.is(1, "DO10I=1,5");
        PROBE.is(2, "DO10I=1.5", "DO10I=15", "DO10=1", "DO=1", "DO(10)=1");
        PROBE.is(2, "IF(A)=1", "IF(A,B)=1", "IF=1", "ELSEIF(A)=1", "ELSE=1", "ENDIF=1", "GOTO1=1", "GOTO=1");
        PROBE.is(2, "CALLA=1", "CALLA(1)=1", "RETURN=1", "STOP=1", "PRINT=1", "END=1", "REALA=1", "REALA(1)=1",
                "GOTO(1)=1");
        PROBE.is(3, "IF(A)THEN");
        PROBE.is(4, "IF(A)THEN=1", "IF(A)THEN(1)=1", "IF(A)THENA=1");
        PROBE.is(9, "GOTO1");
        PROBE.is(17, "GOTO(1)1");
        PROBE.is(14, "END");
        PROBE.is(7, "ENDIF");
        PROBE.is(10, "CALLIF(A)", "CALLEND");
        PROBE.is(15, "REALDO10I", "REALREAL", "INTEGEREND");
    }

    /** "DO, 1 to 5 digits, perhaps a comma, a name, =, and an expression, a comma outside of brackets, .." */
    private static void loops() {
        PROBE.is(0, "DOI=1,2", "DO,I=1,2");
        PROBE.is(1, "DO1I=1,2", "DO0I=1,2", "DO12345I=1,2", "DO99999I=1,2", "DO00000I=1,2");
        PROBE.is(0, "DO123456I=1,2", "DO000001I=1,2", "DO100000I=1,2");
        PROBE.is(1, "DO1I=1,2", "DO1,I=1,2", "DO12345,I=1,2");
        PROBE.is(0, "DO1,,I=1,2", "DO1I,=1,2", "DO,1I=1,2", "DO1.I=1,2");
        PROBE.is(0, "DO1=1,2", "DO1,=1,2", "DO1I(1)=1,2", "DO1I1,2", "DO1I==1,2");
        PROBE.is(2, "DO1I=1");
        PROBE.is(1, "DO1I=1,2", "DO1I=1,2,3", "DO1I=F(1,2),3", "DO1I=A.OR.B,-C,.NOT.D");
        PROBE.is(0, "DO1I=1,2,3,4", "DO1I=", "DO1I=1,", "DO1I=,2", "DO1I=1,2,", "DO1I=1,,2", "DO1I=,");
        PROBE.is(0, "DO1I=(1,2)", "DO1,I=(1)");
        PROBE.is(2, "DO1I=F(1,2)", "DO1I=(1)");
        PROBE.is(1, "DO1I=A.OR.B,C.OR.D", "DO1I=A.OR.B,C.OR.D,E.OR.F");
        PROBE.is(0, "DO1I=A.OR.,C", "DO1I=A,C.OR.", "DO1I=A,C,E.OR.");
    }

    /** "a name, perhaps ( expressions with commas between ), =, an expression." */
    private static void assignments() {
        PROBE.is(2, "A=1", "A(1)=1", "A(1,2)=1", "A(1,2,3,4,5,6,7,8,9)=1", "A(-1)=1", "A(B(1,2),.NOT.C)=1");
        PROBE.is(0, "A()=1", "A(1,)=1", "A(,1)=1", "A(1,,2)=1", "A(1=1", "A1)=1", "A(1)(1)=1", "A(1))=1", "(A)=1");
        PROBE.is(0, "A=", "A(1)=", "A", "A(1)", "=", "A==1", "A=1=1", "A=1,1", "A,B=1", "-A=1", "1=A", "A=1.2.3");
    }

    /** "IF( expression )THEN." */
    private static void ifThens() {
        PROBE.is(3, "IF(A)THEN", "IF(A.OR.B)THEN", "IF((A))THEN", "IF(1)THEN", "IF('A')THEN");
        PROBE.is(0, "IF()THEN", "IF(A,B)THEN", "IFATHEN", "IF(ATHEN", "IFA)THEN", "IF(A)THE", "IF(A)THENN",
                "IF(A)THEN1", "IF(A))THEN");
    }

    /** "IF( expression ) and a statement that is 2, 9, 10, 11, 12, 13 or 17." */
    private static void ifs() {
        String[] statements = {"ZZ", "DO1I=1,2", "X=1", "IF(B)THEN", "IF(B)X=1", "ELSEIF(B)THEN", "ELSE", "ENDIF",
            "CONTINUE", "GOTO1", "CALLS", "RETURN", "STOP", "PRINT*,X", "END", "REALX", "DIMENSIONX(1)", "GOTO(1)I"};
        for (int what = 0; what <= 17; what++) {
            boolean may = what == 2 || what >= 9 && what <= 13 || what == 17;
            PROBE.is(what, statements[what]);
            PROBE.is(may ? 4 : 0, "IF(A)" + statements[what]);
            PROBE.is(0, "IF()" + statements[what], "IF(A,B)" + statements[what], "IF(A" + statements[what]);
            PROBE.is(0, "IF(A)" + statements[what] + ")");
        }
        PROBE.is(4, "IF(A)IF(B)=1", "IF(A)DO1I=1", "IF(A)X=.TRUE.", "IF(A)GOTO12345", "IF(A)CALLS(1,2)");
        // An IF stands at the beginning, not behind the beginning of something else.
        PROBE.is(0, "GOTO(IF(A)STOP", "GOTO(1,IF(A)STOP", "GOTOIF(A)STOP", "DOIF(A)STOP", "CALLIF(A)STOP",
                "REALIF(A)STOP");
        PROBE.is(0, "IF(A)", "IF(A)IF(B)STOP", "IF(A)GOTO123456", "IF(A)GOTO", "IF(A)CALLS()", "IF(A)X()=1",
                "IF(A)PRINT*,");
    }

    /** "ELSEIF( expression )THEN." */
    private static void elseIfs() {
        PROBE.is(5, "ELSEIF(A)THEN", "ELSEIF(A.OR.B)THEN", "ELSEIF((A))THEN");
        PROBE.is(0, "ELSEIF()THEN", "ELSEIF(A,B)THEN", "ELSEIF(A)", "ELSEIF(A)STOP", "ELSEIF(A)THENX", "ELSEIF",
                "ELSEIFATHEN");
        PROBE.is(0, "ELSEIF(A)X=1", "ELSEIF(A)THEN=1");
    }

    /** "6 ELSE. 7 END IF: ENDIF. 8 CONTINUE. .. 11 RETURN. 12 STOP. .. 14 END." */
    private static void wordsAlone() {
        String[] words = {"ELSE", "ENDIF", "CONTINUE", "RETURN", "STOP", "END"};
        int[] want = {6, 7, 8, 11, 12, 14};
        for (int i = 0; i < words.length; i++) {
            PROBE.is(want[i], words[i], " " + words[i].replace("", " "));
            PROBE.is(0, words[i].substring(0, words[i].length() - 1), words[i] + "X", words[i] + "1", "X" + words[i],
                    words[i] + "()", "'" + words[i] + "'", words[i] + words[i], words[i].substring(1), words[i] + ",");
        }
    }

    /** "GOTO and 1 to 5 digits." */
    private static void goTos() {
        PROBE.is(0, "GOTO");
        PROBE.is(9, "GOTO0", "GOTO1", "GOTO12345", "GOTO99999", "GOTO00000");
        PROBE.is(0, "GOTO123456", "GOTO000000", "GOTO100000", "GOTOA", "GOTO1A", "GOTO1.", "GOTO-1", "GOTO1,2",
                "GOTO,1");
    }

    /** "CALL, a name, perhaps ( expressions with commas between )." */
    private static void calls() {
        PROBE.is(0, "CALL", "CALL(1)");
        PROBE.is(10, "CALLA", "CALLA(1)", "CALLA(1,2)", "CALLA(B(),'C',-D,.NOT.E)");
        PROBE.is(0, "CALLA()", "CALLA(1,)", "CALLA(,1)", "CALLA(1", "CALLA1)", "CALLA(1)(2)", "CALLA,1", "CALLA(1),",
                "CALLA.");
    }

    /** "PRINT*, and expressions with commas between." */
    private static void prints() {
        PROBE.is(0, "PRINT*,", "PRINT*", "PRINT", "PRINTA", "PRINT,A", "PRINT*A", "PRINT**,A");
        PROBE.is(13, "PRINT*,A", "PRINT*,A,B", "PRINT*,A,B,C,D,E,F,G,H,'I'", "PRINT*,(A)");
        PROBE.is(0, "PRINT*,A,", "PRINT*,,A", "PRINT*,A,,B", "PRINT*,A B,", "PRINT*,(A,B)", "PRINT*,A=1");
    }

    /** "INTEGER, REAL or LOGICAL and names with commas between." */
    private static void types() {
        for (String word : new String[] {"INTEGER", "REAL", "LOGICAL"}) {
            PROBE.is(0, word, word + ",", word + ",A");
            PROBE.is(15, word + "A", word + "A,B", word + "A,B,C,D,E,F,G,H,A");
            PROBE.is(0, word + "A,", word + "A,,B", word + "A(1)", word + "A,1", word + "A,B(1)", word + "A.B",
                    word + "(A)", word + "*A");
        }
        PROBE.is(0, "INTEGEA", "REAA", "LOGICAA", "COMPLEXA", "DOUBLEA");
    }

    /** "DIMENSION and, with commas between, names each with ( 1 to 3 digits ) behind." */
    private static void dimensions() {
        PROBE.is(0, "DIMENSION", "DIMENSIONA", "DIMENSIONA()", "DIMENSION(1)");
        PROBE.is(16, "DIMENSIONA(1)", "DIMENSIONA(12)", "DIMENSIONA(123)", "DIMENSIONA(999)", "DIMENSIONA(0)",
                "DIMENSIONA(000)");
        PROBE.is(0, "DIMENSIONA(1234)", "DIMENSIONA(0001)", "DIMENSIONA(1000)", "DIMENSIONA(1.)", "DIMENSIONA(-1)",
                "DIMENSIONA(N)");
        PROBE.is(16, "DIMENSIONA(1),B(2)", "DIMENSIONA(1),B(2),C(3),A(4)");
        PROBE.is(0, "DIMENSIONA(1),", "DIMENSIONA(1),B", "DIMENSIONA,B(1)", "DIMENSIONA(1)B(2)", "DIMENSIONA(1),,B(2)",
                "DIMENSIONA(1,2)", "DIMENSIONA(1)(2)", "DIMENSION,A(1)", "DIMENSIONA(1", "DIMENSIONA1)",
                "DIMENSIONA((1))");
    }

    /** "GOTO( 1 to 5 digits, with commas between, once or more ), perhaps a comma, an expression." */
    private static void computedGoTos() {
        PROBE.is(0, "GOTO()I", "GOTO(),I");
        PROBE.is(17, "GOTO(1)I", "GOTO(12345)I", "GOTO(99999)I", "GOTO(0)I", "GOTO(00000)I", "GOTO(1,2)I",
                "GOTO(1,2,3,4,5,6,7)I");
        PROBE.is(0, "GOTO(123456)I", "GOTO(1,000001)I", "GOTO(1,)I", "GOTO(,1)I", "GOTO(1,,2)I", "GOTO(A)I",
                "GOTO(1.)I", "GOTO((1))I");
        PROBE.is(17, "GOTO(1)I", "GOTO(1),I", "GOTO(1),-I", "GOTO(1)-I", "GOTO(1)(I)", "GOTO(1)2", "GOTO(1),.NOT.I");
        PROBE.is(17, "GOTO(1)A.OR.B", "GOTO(1),A.OR.B");
        PROBE.is(0, "GOTO(1)A.OR.", "GOTO(1),.OR.B", "GOTO(1),,I", "GOTO(1)", "GOTO(1),", "GOTO(1)I,", "GOTO(1)I,J",
                "GOTO(1I", "GOTO1)I", "GOTO1,I");
    }

    /** "0 NONE, if it is none of these." */
    private static void noneOfThese() {
        PROBE.is(0, "", "X", "1", "(", ")", ",", "=", ".", "'", "''", "'X'", "X+1", "FORMAT(1)", "WRITE*,X", "*",
                "X*=1");
    }

    /** "What a statement is, 0 .. 17; NONE if there is no such one." */
    private static void noSuchStatement() {
        Desk desk = new Desk();
        PROBE.due("what(0) of none", DeckFront.NONE, desk.ask().what(0));
        desk.card("      ZZ");
        desk.card("      GOTO(1)I");
        PROBE.due("what(0), the least", 0, desk.ask().what(0));
        PROBE.due("what(1), the greatest", 17, desk.ask().what(1));
        for (int statement : new int[] {-1, 2, 23, 24, Integer.MIN_VALUE, Integer.MAX_VALUE}) {
            PROBE.due("what(" + statement + ")", DeckFront.NONE, desk.ask().what(statement));
        }
        for (int i = 2; i < 24; i++) {
            desk.card("     0X=1");
        }
        PROBE.due("what(23) of 24", 2, desk.ask().what(23));
        PROBE.due("what(24) of 24", DeckFront.NONE, desk.ask().what(24));
    }

    /** "A statement's text is that of its cards": what it is can change with each. */
    private static void changedByACard() {
        String[] cards = {"      END", "     1IF", "     1(A)", "     1=1", "     1+", "     11"};
        int[] want = {14, 7, 0, 2, 0, 2};
        Desk desk = new Desk();
        for (int i = 0; i < cards.length; i++) {
            desk.card(cards[i]);
            PROBE.due("what behind " + cards[i], want[i], desk.ask().what(0));
        }
        PROBE.due("shown", "ENDIF(A)=(1+1)", desk.shown(0));
    }

    /** "texts of at most 80 characters": a full text that breaks off anywhere, and the same one behind a whole one. */
    private static void endOfAFullText() {
        String[] heads = {"IF(", "X=", "DO1I=", "CALLS(", "PRINT*,", "GOTO(1)"};
        String[] tails = {")X(1,A)=F(-B)**.5E-3.OR..NOT..TRUE.", ")GOTO(1,20),(I)", ")CALLS(A,'B C')", ")PRINT*,A,B()",
            ")THEN", ".LT.A,B,C", "+A(1)*(2)-3.", "/F().AND.'A'", ",1.EQ.2)"};
        for (String head : heads) {
            for (String tail : tails) {
                for (int end = 0; end <= tail.length(); end++) {
                    brokenOff(head, tail, end);
                }
            }
        }
        PROBE.is(15, "REAL" + "A,".repeat(37) + "BC");
        PROBE.is(0, "REAL" + "A,".repeat(38));
        PROBE.is(16, "DIMENSION" + "A(1),".repeat(13) + "AB(12)", "DIMENSION" + "A(12),".repeat(11) + "A(12)");
        PROBE.is(0, "DIMENSION" + "A(1),".repeat(13) + "A(123,", "DIMENSION" + "A(12),".repeat(11) + "AB(12");
        PROBE.is(0, "DIMENSION" + "A(1),".repeat(14) + "A", "DIMENSION" + "A(1),".repeat(13) + "ABCDE(");
        PROBE.is(0, "GOTO(" + "1,".repeat(37) + "1", "GOTO(" + "1,".repeat(36) + "12)",
                "GOTO(" + "1,".repeat(36) + "1),");
        PROBE.is(17, "GOTO(" + "1,".repeat(36) + "1)I", "GOTO(" + "1,".repeat(35) + "12),I");
    }

    /** What a full text is cannot hang on what its row held before, nor on how long it is. */
    private static void brokenOff(String head, String tail, int end) {
        String rest = tail.substring(0, end);
        String full = head + "1".repeat(80 - head.length() - rest.length()) + rest;
        DeckFront brief = Probe.deck(head + "1" + rest);
        DeckFront alone = Probe.deck(full);
        PROBE.due("what of " + full, brief.what(0), alone.what(0));
        Desk used = new Desk();
        used.card("      " + (head + "1" + tail));
        used.ask().clear();
        used.card("      " + (head + "1" + rest));
        PROBE.due("what of " + head + "1" + rest + " behind a longer one", brief.what(0), used.ask().what(0));
        PROBE.due("shown of it", Probe.shown(brief, 0), used.shown(0));
    }
}
