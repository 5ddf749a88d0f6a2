/**
 * The front end of a compiler for a language on cards without reserved words: it joins cards to
 * statements, tells what each statement is, shows it with all its brackets, tells the kinds and
 * types of names, and finds the first fault of the deck's structure.
 */
public final class DeckFront {
    /** Nothing there. */
    public static final int NONE = -1;

    private static final int MOST_COLUMNS = 72;
    private static final int LABEL_COLUMNS = 5;
    private static final int MOST_STATEMENTS = 24;
    private static final int MOST_SIGNS = 80;
    private static final int MOST_BRACKETS = 8;
    private static final int MOST_NAME_SIGNS = 6;
    private static final int MOST_LABEL_DIGITS = 5;
    private static final int MOST_BOUND_DIGITS = 3;

    // What comes of a card beside a statement's number and NONE.
    private static final int WRONG_LABEL = -2;
    private static final int NO_PLACE = -3;

    // What a statement is.
    private static final int NOTHING = 0;
    private static final int DO = 1;
    private static final int ASSIGNMENT = 2;
    private static final int IF_THEN = 3;
    private static final int IF = 4;
    private static final int ELSE_IF = 5;
    private static final int ELSE = 6;
    private static final int END_IF = 7;
    private static final int CONTINUE = 8;
    private static final int GO_TO = 9;
    private static final int CALL = 10;
    private static final int RETURN = 11;
    private static final int STOP = 12;
    private static final int PRINT = 13;
    private static final int END = 14;
    private static final int TYPE = 15;
    private static final int DIMENSION = 16;
    private static final int COMPUTED_GO_TO = 17;

    // What a place in a statement's text is; the first four are the kinds of the name that begins
    // there, and the smallest that a name has anywhere is the one that counts.
    private static final int PLAIN = 0;
    private static final int ARRAY = 1;
    private static final int PROCEDURE = 2;
    private static final int FUNCTION = 3;
    private static final int VARIABLE = 4;
    private static final int LEFT_OUT = 5;
    private static final int LABEL_DIGITS = 6;

    private static final int INTEGER = 1;
    private static final int REAL = 2;
    private static final int LOGICAL = 3;

    // What binds in an expression, from what binds least; ** and primaries have methods of their own.
    private static final int OR = 1;
    private static final int AND = 2;
    private static final int NOT = 3;
    private static final int RELATION = 4;
    private static final int SUM = 5;
    private static final int TERM = 6;

    private static final long NO_NAME = 0;

    private final Card written = new Card();
    private final Deck deck = new Deck();
    private final Structure structure = new Structure();

    /** An empty card and an empty deck. */
    public DeckFront() {
    }

    /** Appends the bytes of w that are not 0 to the card; false, changing nothing, if it can't. */
    public boolean write(long w) {
        return written.append(w);
    }

    /** The card joins the deck: the statement that it begins or continues, NONE for a comment. */
    public int card() throws IllegalArgumentException, IllegalStateException {
        int joined = deck.join(written);
        written.length = 0;
        if (joined == WRONG_LABEL) {
            throw new IllegalArgumentException("the label field");
        }
        if (joined == NO_PLACE) {
            throw new IllegalStateException("no place in the deck");
        }
        Statement changed = deck.find(joined);
        if (changed != null) {
            changed.recognise();
        }
        return joined;
    }

    /** Empties the deck; the card stays. */
    public void clear() {
        deck.count = 0;
    }

    /** How many statements there are. */
    public int statements() {
        return deck.count;
    }

    /** A statement's label; 0 if it has none, NONE if there is no such statement. */
    public int label(int statement) {
        Statement found = deck.find(statement);
        return found == null ? NONE : found.number;
    }

    /** What a statement is, 0 to 17; NONE if there is no such statement. */
    public int what(int statement) {
        Statement found = deck.find(statement);
        return found == null ? NONE : found.is;
    }

    /** Character k of a statement as it is shown; NONE if there is none. */
    public int shown(int statement, int k) {
        Statement found = deck.find(statement);
        return found == null ? NONE : found.signShown(k);
    }

    /** The kind of a name, 1 to 4; 0 if it is no name or stands nowhere. */
    public int kind(long w) {
        long name = nameOf(w);
        return name == NO_NAME ? 0 : deck.kindOf(name);
    }

    /** The type of a name, 1 to 3; 0 if it is no name. */
    public int type(long w) {
        long name = nameOf(w);
        return name == NO_NAME ? 0 : deck.typeOf(name);
    }

    /** The structure's first fault, 1 to 8; 0 if there is none. */
    public int fault() {
        structure.look(deck);
        return structure.found;
    }

    /** The statement that has the first fault; NONE if there is none. */
    public int faultAt() {
        structure.look(deck);
        return structure.place;
    }

    private static boolean isLetter(int sign) {
        return sign >= 'A' && sign <= 'Z';
    }

    private static boolean isDigit(int sign) {
        return sign >= '0' && sign <= '9';
    }

    /** The name that the bytes of w are, a byte a sign, the last one lowest; NO_NAME if they are none. */
    private static long nameOf(long w) {
        long name = NO_NAME;
        int length = 0;
        for (int shift = 56; shift >= 0; shift -= 8) {
            int sign = (int) (w >>> shift) & 255;
            if (sign == 0) {
                continue;
            }
            boolean fits = isLetter(sign) || length > 0 && isDigit(sign);
            if (!fits || length == MOST_NAME_SIGNS) {
                return NO_NAME;
            }
            name = name << 8 | sign;
            length++;
        }
        return name;
    }

    /** The type of a name that no statement tells a type of. */
    private static int typeByLetter(long name) {
        long first = name;
        for (int n = 1; n < MOST_NAME_SIGNS && first > 255; n++) {
            first = first >>> 8;
        }
        return first >= 'I' && first <= 'N' ? INTEGER : REAL;
    }

    /** The card that is being written. */
    private static final class Card {
        final char[] signs = new char[MOST_COLUMNS];
        int length;

        boolean append(long w) {
            int more = 0;
            for (int shift = 56; shift >= 0; shift -= 8) {
                int sign = (int) (w >>> shift) & 255;
                if (sign != 0 && !isCardSign(sign)) {
                    return false;
                }
                more += sign == 0 ? 0 : 1;
            }
            if (length + more > MOST_COLUMNS) {
                return false;
            }
            for (int shift = 56; shift >= 0; shift -= 8) {
                int sign = (int) (w >>> shift) & 255;
                if (sign != 0) {
                    signs[length] = (char) sign;
                    length++;
                }
            }
            return true;
        }

        private static boolean isCardSign(int sign) {
            return isLetter(sign) || isDigit(sign) || " =+-*/(),.'".indexOf((char) sign) >= 0;
        }

        boolean isComment() {
            return length > 0 && (signs[0] == 'C' || signs[0] == '*') || isBlankTo(length);
        }

        boolean isBlankTo(int end) {
            for (int i = 0; i < end && i < length; i++) {
                if (signs[i] != ' ') {
                    return false;
                }
            }
            return true;
        }

        boolean continuesOne() {
            return length > LABEL_COLUMNS && signs[LABEL_COLUMNS] != ' ' && signs[LABEL_COLUMNS] != '0';
        }

        boolean hasGoodLabelField() {
            if (continuesOne()) {
                return isBlankTo(LABEL_COLUMNS);
            }
            for (int i = 0; i < LABEL_COLUMNS && i < length; i++) {
                if (signs[i] != ' ' && !isDigit(signs[i])) {
                    return false;
                }
            }
            return true;
        }

        int numberInLabelField() {
            int number = 0;
            for (int i = 0; i < LABEL_COLUMNS && i < length; i++) {
                if (isDigit(signs[i])) {
                    number = number * 10 + signs[i] - '0';
                }
            }
            return number;
        }
    }

    /** The statements. The rows behind the count wait to be used again. */
    private static final class Deck {
        final Statement[] rows = new Statement[MOST_STATEMENTS];
        int count;

        Deck() {
            for (int i = 0; i < MOST_STATEMENTS; i++) {
                rows[i] = new Statement();
            }
        }

        Statement find(int place) {
            return place < 0 || place >= count ? null : rows[place];
        }

        /** The statement that the card begins or continues; NONE, WRONG_LABEL or NO_PLACE. */
        int join(Card card) {
            if (card.isComment()) {
                return NONE;
            }
            if (!card.hasGoodLabelField()) {
                return WRONG_LABEL;
            }
            return card.continuesOne() ? carryOn(card) : begin(card);
        }

        private int begin(Card card) {
            if (count >= MOST_STATEMENTS) {
                return NO_PLACE;
            }
            Statement row = rows[count];
            row.number = card.numberInLabelField();
            row.wipe();
            if (!row.append(card)) {
                return NO_PLACE;
            }
            count++;
            return count - 1;
        }

        private int carryOn(Card card) {
            Statement last = find(count - 1);
            if (last == null || !last.append(card)) {
                return NO_PLACE;
            }
            return count - 1;
        }

        int kindOf(long name) {
            int kind = 0;
            for (int i = 0; i < count; i++) {
                int here = rows[i].kindHere(name);
                if (here != 0 && (kind == 0 || here < kind)) {
                    kind = here;
                }
            }
            return kind;
        }

        int typeOf(long name) {
            for (int i = 0; i < count; i++) {
                if (rows[i].is == TYPE && rows[i].kindHere(name) != 0) {
                    return rows[i].typeTold();
                }
            }
            return typeByLetter(name);
        }

        /** Whether one of the statements from a place on, up to an end, has this label. */
        boolean hasNumber(int number, int from, int end) {
            for (int i = from; i < end && i < count; i++) {
                if (number != 0 && rows[i].number == number) {
                    return true;
                }
            }
            return false;
        }
    }

    /**
     * A statement's text, how far it has been read, and what has been found on the way: how many
     * brackets are shown before and behind each place, and what role the place has.
     */
    private abstract static class Tape {
        final char[] text = new char[MOST_SIGNS];
        final int[] opens = new int[MOST_SIGNS];
        final int[] closes = new int[MOST_SIGNS];
        final int[] roles = new int[MOST_SIGNS];
        int length;
        int at;
        boolean inQuote;

        final void wipe() {
            length = 0;
            at = 0;
            inQuote = false;
        }

        /** Appends a card's text; false, changing nothing, if it is too long. */
        final boolean append(Card card) {
            int oldLength = length;
            boolean oldInQuote = inQuote;
            for (int i = LABEL_COLUMNS + 1; i < card.length; i++) {
                char sign = card.signs[i];
                if (sign == '\'') {
                    inQuote = !inQuote;
                }
                if (sign == ' ' && !inQuote) {
                    continue;
                }
                if (length >= MOST_SIGNS) {
                    length = oldLength;
                    inQuote = oldInQuote;
                    return false;
                }
                text[length] = sign;
                length++;
            }
            return true;
        }

        /** Goes back to a place and forgets what was found from there on, all of it before at. */
        final void goBackTo(int place) {
            for (int i = place; i < at && i < length; i++) {
                opens[i] = 0;
                closes[i] = 0;
                roles[i] = PLAIN;
            }
            at = place;
        }

        final boolean isNext(char sign) {
            return at < length && text[at] == sign;
        }

        final boolean stands(int place, String word) {
            if (place + word.length() > length) {
                return false;
            }
            for (int i = 0; i < word.length(); i++) {
                if (text[place + i] != word.charAt(i)) {
                    return false;
                }
            }
            return true;
        }

        final boolean take(String word) {
            if (!stands(at, word)) {
                return false;
            }
            at += word.length();
            return true;
        }

        /** A comma that is not shown, or none. */
        final boolean takeIdleComma() {
            if (isNext(',')) {
                roles[at] = LEFT_OUT;
                at++;
            }
            return true;
        }

        /** One to so many digits; the zeros before them are not shown. */
        final boolean takeDigits(int most, int role) {
            int first = at;
            for (int n = 0; n < most && at < length && isDigit(text[at]); n++) {
                at++;
            }
            if (at == first) {
                return false;
            }
            while (first < at - 1 && text[first] == '0') {
                roles[first] = LEFT_OUT;
                first++;
            }
            roles[first] = role;
            return true;
        }

        /** A name. Of a longer word the rest is left, and nothing can be read with it. */
        final boolean takeName(int role) {
            int first = at;
            if (at >= length || !isLetter(text[at])) {
                return false;
            }
            for (int n = 0; n < MOST_NAME_SIGNS && at < length; n++) {
                if (!isLetter(text[at]) && !isDigit(text[at])) {
                    break;
                }
                at++;
            }
            roles[first] = role;
            return true;
        }

        final boolean takeQuote() {
            if (!isNext('\'')) {
                return false;
            }
            for (int end = at + 1; end < length; end++) {
                if (text[end] == '\'') {
                    at = end + 1;
                    return true;
                }
            }
            return false;
        }

        /** A number up to its exponent. */
        final boolean takeDecimal() {
            int end = digitsEnd(at);
            boolean whole = end > at;
            if (stands(end, ".") && !standsLogicalWord(end)) {
                int fractionEnd = digitsEnd(end + 1);
                if (!whole && fractionEnd == end + 1) {
                    return false;
                }
                end = fractionEnd;
            }
            boolean moved = end > at;
            at = end;
            return moved;
        }

        /** A number's exponent, or none. */
        final boolean takeExponent() {
            if (isNext('E')) {
                int digits = stands(at, "E+") || stands(at, "E-") ? at + 2 : at + 1;
                int end = digitsEnd(digits);
                at = end > digits ? end : at;
            }
            return true;
        }

        private int digitsEnd(int from) {
            int end = from;
            while (end < length && isDigit(text[end])) {
                end++;
            }
            return end;
        }

        private boolean standsLogicalWord(int place) {
            return stands(place, ".OR.") || stands(place, ".AND.") || stands(place, ".NOT.")
                    || stands(place, ".LT.") || stands(place, ".LE.") || stands(place, ".EQ.")
                    || stands(place, ".NE.") || stands(place, ".GT.") || stands(place, ".GE.")
                    || stands(place, ".TRUE.") || stands(place, ".FALSE.");
        }

        /** So many brackets close behind what has been read. */
        final void close(int count) {
            if (at > 0) {
                closes[at - 1] += count;
            }
        }

        final int signShown(int k) {
            int left = k;
            for (int i = 0; i < length && left >= 0; i++) {
                if (left < opens[i]) {
                    return '(';
                }
                left -= opens[i];
                if (roles[i] != LEFT_OUT) {
                    if (left == 0) {
                        return text[i];
                    }
                    left--;
                }
                if (left < closes[i]) {
                    return ')';
                }
                left -= closes[i];
            }
            return NONE;
        }

        /** The kind that a name has by this text alone; 0 if it does not stand here. */
        final int kindHere(long name) {
            int kind = 0;
            for (int i = 0; i < length; i++) {
                boolean named = roles[i] >= ARRAY && roles[i] <= VARIABLE;
                if (named && (kind == 0 || roles[i] < kind) && nameAt(i) == name) {
                    kind = roles[i];
                }
            }
            return kind;
        }

        private long nameAt(int place) {
            long name = NO_NAME;
            for (int i = place; i < place + MOST_NAME_SIGNS && i < length; i++) {
                if (!isLetter(text[i]) && !isDigit(text[i])) {
                    break;
                }
                name = name << 8 | text[i];
            }
            return name;
        }

        final int numberAt(int place) {
            int number = 0;
            for (int i = place; i < place + MOST_LABEL_DIGITS && i < length && isDigit(text[i]); i++) {
                number = number * 10 + text[i] - '0';
            }
            return number;
        }
    }

    /** A statement of the deck; what it is has to be found anew when its text has changed. */
    private static final class Statement extends Tape {
        int number;
        int is;

        /** Finds what it is. IF may come last, since no text is both an IF and another statement. */
        void recognise() {
            at = length;
            is = firstThatFits(0);
            if (is == NOTHING && take("IF(") && expression(OR, 1) && take(")")
                    && mayStandInIf(firstThatFits(at))) {
                is = IF;
            }
            if (is == NOTHING) {
                goBackTo(0);
            }
        }

        private static boolean mayStandInIf(int what) {
            return what == ASSIGNMENT || what >= GO_TO && what <= PRINT || what == COMPUTED_GO_TO;
        }

        private int firstThatFits(int from) {
            for (int what = DO; what <= COMPUTED_GO_TO; what++) {
                goBackTo(from);
                if (fits(what) && at == length) {
                    return what;
                }
            }
            goBackTo(from);
            return NOTHING;
        }

        private boolean fits(int what) {
            switch (what) {
                case DO:
                    return take("DO") && takeDigits(MOST_LABEL_DIGITS, LABEL_DIGITS) && takeIdleComma()
                            && takeName(VARIABLE) && take("=")
                            && expression(OR, 0) && take(",") && expression(OR, 0)
                            && (!take(",") || expression(OR, 0));
                case ASSIGNMENT:
                    return reference(1, false) && take("=") && expression(OR, 0);
                case IF_THEN:
                    return take("IF(") && expression(OR, 1) && take(")THEN");
                case ELSE_IF:
                    return take("ELSEIF(") && expression(OR, 1) && take(")THEN");
                case ELSE:
                    return take("ELSE");
                case END_IF:
                    return take("ENDIF");
                case CONTINUE:
                    return take("CONTINUE");
                case GO_TO:
                    return take("GOTO") && takeDigits(MOST_LABEL_DIGITS, LABEL_DIGITS);
                case CALL:
                    return take("CALL") && takeName(PROCEDURE) && (!isNext('(') || list(1));
                case RETURN:
                    return take("RETURN");
                case STOP:
                    return take("STOP");
                case PRINT:
                    return take("PRINT*,") && expressions(0);
                case END:
                    return take("END");
                case TYPE:
                    return (take("INTEGER") || take("REAL") || take("LOGICAL")) && series(TYPE);
                case DIMENSION:
                    return take("DIMENSION") && series(DIMENSION);
                case COMPUTED_GO_TO:
                    return take("GOTO(") && series(COMPUTED_GO_TO) && take(")")
                            && takeIdleComma() && expression(OR, 0);
                default:
                    return false;
            }
        }

        /** What a TYPE, a DIMENSION or a computed GO TO has with commas between. */
        private boolean series(int what) {
            boolean good = item(what);
            for (int n = 0; n < MOST_SIGNS && good && take(","); n++) {
                good = item(what);
            }
            return good;
        }

        private boolean item(int what) {
            if (what == TYPE) {
                return takeName(VARIABLE);
            }
            if (what == DIMENSION) {
                return takeName(ARRAY) && take("(") && takeDigits(MOST_BOUND_DIGITS, PLAIN) && take(")");
            }
            return takeDigits(MOST_LABEL_DIGITS, LABEL_DIGITS);
        }

        /**
         * An expression whose outermost sign binds as close as the level or closer, with so many
         * brackets open round it. No tree is made: its brackets are counted where they are shown.
         */
        private boolean expression(int level, int depth) {
            if (level > TERM) {
                return power(depth);
            }
            int first = at;
            int before = takeSignsBefore(level);
            if (!expression(level + 1, depth)) {
                return false;
            }
            close(before);
            int most = level == RELATION ? 1 : MOST_SIGNS;
            for (int n = 0; n < most && takeSignBetween(level); n++) {
                if (!expression(level + 1, depth)) {
                    return false;
                }
                opens[first]++;
                close(1);
            }
            return true;
        }

        /** How many signs stand before an operand; a bracket opens before each. */
        private int takeSignsBefore(int level) {
            int count = 0;
            if (level == SUM && (isNext('+') || isNext('-'))) {
                opens[at]++;
                at++;
                count++;
            }
            for (int n = 0; n < MOST_SIGNS && level == NOT && stands(at, ".NOT."); n++) {
                opens[at]++;
                at += 5;
                count++;
            }
            return count;
        }

        private boolean takeSignBetween(int level) {
            switch (level) {
                case OR:
                    return take(".OR.");
                case AND:
                    return take(".AND.");
                case RELATION:
                    return take(".LT.") || take(".LE.") || take(".EQ.")
                            || take(".NE.") || take(".GT.") || take(".GE.");
                case SUM:
                    return take("+") || take("-");
                case TERM:
                    return take("*") || take("/");
                default:
                    return false;
            }
        }

        /** From the right to the left, so all its brackets close behind the last operand. */
        private boolean power(int depth) {
            int first = at;
            int count = 0;
            if (!primary(depth)) {
                return false;
            }
            for (int n = 0; n < MOST_SIGNS && take("**"); n++) {
                opens[first]++;
                count++;
                first = at;
                if (!primary(depth)) {
                    return false;
                }
            }
            close(count);
            return true;
        }

        private boolean primary(int depth) {
            if (takeDecimal()) {
                return takeExponent();
            }
            if (take(".TRUE.") || take(".FALSE.") || takeQuote()) {
                return true;
            }
            return isNext('(') ? group(depth + 1) : reference(depth + 1, true);
        }

        /** An expression in brackets of its own, which are not shown. */
        private boolean group(int depth) {
            if (depth > MOST_BRACKETS) {
                return false;
            }
            roles[at] = LEFT_OUT;
            at++;
            if (!expression(OR, depth) || !isNext(')')) {
                return false;
            }
            roles[at] = LEFT_OUT;
            at++;
            return true;
        }

        /** A name, perhaps with brackets behind, between which perhaps nothing may stand. */
        private boolean reference(int depth, boolean perhapsNothing) {
            int first = at;
            if (!takeName(VARIABLE)) {
                return false;
            }
            if (!isNext('(')) {
                return true;
            }
            roles[first] = FUNCTION;
            return depth <= MOST_BRACKETS && (perhapsNothing && take("()") || list(depth));
        }

        private boolean list(int depth) {
            return depth <= MOST_BRACKETS && take("(") && expressions(depth) && take(")");
        }

        private boolean expressions(int depth) {
            boolean good = expression(OR, depth);
            for (int n = 0; n < MOST_SIGNS && good && take(","); n++) {
                good = expression(OR, depth);
            }
            return good;
        }

        /** The type that a TYPE statement tells: its words differ in their first letters. */
        int typeTold() {
            if (text[0] == 'I') {
                return INTEGER;
            }
            return text[0] == 'R' ? REAL : LOGICAL;
        }

        /** The digits of a DO. */
        int loopNumber() {
            for (int i = 0; i < length; i++) {
                if (roles[i] == LABEL_DIGITS) {
                    return numberAt(i);
                }
            }
            return 0;
        }

        boolean declares() {
            return is == TYPE || is == DIMENSION;
        }

        boolean isBranch() {
            return is == ELSE_IF || is == ELSE || is == END_IF;
        }

        boolean mayEndLoop() {
            return is == ASSIGNMENT || is == IF || is == CONTINUE || is == CALL || is == PRINT || declares();
        }
    }

    /** Finds the first fault. */
    private static final class Structure {
        private static final int OPEN_IF = -1;
        private static final int OPEN_ELSE = -2;

        // What is open, the innermost last: the digits of a DO, or one of the two above.
        final int[] open = new int[MOST_STATEMENTS];
        int depth;
        int found;
        int place;

        void look(Deck deck) {
            depth = 0;
            found = 0;
            place = NONE;
            for (int i = 0; i < deck.count && found == 0; i++) {
                found = faultOf(deck, i);
                if (found != 0) {
                    place = i;
                }
            }
        }

        private int faultOf(Deck deck, int i) {
            Statement here = deck.rows[i];
            if (here.is == NOTHING) {
                return 1;
            }
            if (deck.hasNumber(here.number, 0, i)) {
                return 2;
            }
            // The one before it is enough: had it come behind another, it would be the fault itself.
            if (here.declares() && i > 0 && !deck.rows[i - 1].declares()) {
                return 3;
            }
            if (here.isBranch() && !branchFits(here)) {
                return 4;
            }
            if (isOpen(here.number) && !(innermost() == here.number && here.mayEndLoop())) {
                return 5;
            }
            endWhatEnds(here);
            if (!hasItsLabels(deck, i)) {
                return 6;
            }
            boolean last = i == deck.count - 1;
            if ((here.is == END) != last) {
                return 7;
            }
            if (here.is == END && depth > 0) {
                return 8;
            }
            openWhatOpens(here);
            return 0;
        }

        /** What is open innermost; 0, which is no DO's digits, if nothing is. */
        private int innermost() {
            return depth > 0 ? open[depth - 1] : 0;
        }

        private boolean isOpen(int number) {
            for (int i = 0; i < depth; i++) {
                if (open[i] == number) {
                    return true;
                }
            }
            return false;
        }

        private boolean branchFits(Statement here) {
            return innermost() == OPEN_IF || innermost() == OPEN_ELSE && here.is == END_IF;
        }

        private void endWhatEnds(Statement here) {
            if (here.is == END_IF && depth > 0) {
                depth--;
            }
            while (depth > 0 && open[depth - 1] == here.number) {
                depth--;
            }
        }

        private boolean hasItsLabels(Deck deck, int i) {
            Statement here = deck.rows[i];
            if (here.is == DO) {
                return deck.hasNumber(here.loopNumber(), i + 1, deck.count);
            }
            for (int k = 0; k < here.length; k++) {
                if (here.roles[k] == LABEL_DIGITS && !deck.hasNumber(here.numberAt(k), 0, deck.count)) {
                    return false;
                }
            }
            return true;
        }

        private void openWhatOpens(Statement here) {
            if (here.is == ELSE && depth > 0) {
                open[depth - 1] = OPEN_ELSE;
            }
            if ((here.is == DO || here.is == IF_THEN) && depth < MOST_STATEMENTS) {
                open[depth] = here.is == DO ? here.loopNumber() : OPEN_IF;
                depth++;
            }
        }
    }
}
