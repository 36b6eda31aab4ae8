import java.util.Arrays;

/** A deck builder of tarot merchants: a list tells cards, merchants and orders, and rounds are played by it. */
public final class TarotMerchants {
    private static final int MOST_BYTES = 2000;
    private static final int FED_BYTES = 20;
    private static final int MOST_TOKENS = 400;
    private static final int MOST_DEPTH = 8;
    private static final int MOST_CARDS = 10;
    private static final int MOST_MERCHANTS = 4;
    private static final int MOST_DEEDS = 4;
    private static final int MOST_ORDERS = 16;
    private static final int MOST_STARTS = 20;
    private static final int MOST_PILE = 30;
    private static final int MOST_COST_OR_WORTH = 99;
    private static final int MOST_OWNED = 60;
    private static final int MOST_PLAYED = 30;
    private static final int FIRST_DRAWS = 5;
    private static final int MOST_DRAWS = 9;
    private static final int MOST_BUYS = 9;
    private static final int MOST_COINS = 999;
    private static final int MOST_ROUNDS = 40;
    private static final int MOST_TRIED_ROUNDS = 20;
    private static final int NONE = -1;

    private final Tape tape = new Tape();
    private final Grammar grammar = new Grammar();
    private final Game game = new Game();
    private final Game trial = new Game();
    private Rules draft = new Rules();
    private int errorPlace = NONE;

    public TarotMerchants() {
    }

    // ---- the language

    public int feed(int a, int b, int c, int d, int e) throws IllegalStateException {
        if (tape.length() > MOST_BYTES - FED_BYTES) {
            throw new IllegalStateException("the tape would be too long");
        }
        tape.append(a);
        tape.append(b);
        tape.append(c);
        tape.append(d);
        tape.append(e);
        return tape.length();
    }

    public int trim(int n) throws IllegalArgumentException {
        if (n < 0 || n > tape.length()) {
            throw new IllegalArgumentException("the tape has not so many bytes");
        }
        tape.shorten(n);
        return n;
    }

    public int teach() {
        draft.clear();
        int error = grammar.read(tape, draft);
        errorPlace = error == 0 ? NONE : grammar.errorPlace();
        tape.shorten(0);
        if (error == 0) {
            Rules old = game.market.rules;
            game.market.begin(draft);
            draft = old;
        }
        return error;
    }

    public int errorAt() {
        return errorPlace;
    }

    public int count(int what) throws IndexOutOfBoundsException {
        checkWhat(what, 8);
        return what == 8 ? tape.length() : game.market.number(what);
    }

    // ---- what there is

    public int card(int card, int what) throws IndexOutOfBoundsException {
        checkCard(card);
        checkWhat(what, 6);
        return game.market.cardNumber(card, what);
    }

    public int merchant(int merchant, int what) throws IndexOutOfBoundsException {
        checkMerchant(merchant);
        checkWhat(what, 7);
        if (what == 3) {
            return game.market.worth(merchant);
        }
        return game.market.trader(merchant).number(what);
    }

    public int owns(int merchant, int card) throws IndexOutOfBoundsException {
        checkMerchant(merchant);
        checkCard(card);
        return game.market.trader(merchant).owned.get(card);
    }

    public int deck(int merchant, int place) throws IndexOutOfBoundsException {
        checkMerchant(merchant);
        Trader trader = game.market.trader(merchant);
        checkPlace(place, trader.deckSize());
        return trader.deckCard(place);
    }

    public int discard(int merchant, int place) throws IndexOutOfBoundsException {
        checkMerchant(merchant);
        Trader trader = game.market.trader(merchant);
        checkPlace(place, trader.discards.size());
        return trader.discards.get(place);
    }

    public int leader() {
        return game.market.worthiest();
    }

    // ---- by hand

    public int give(int merchant, int card) throws IndexOutOfBoundsException, IllegalStateException {
        checkMerchant(merchant);
        checkCard(card);
        if (!game.market.canGain(merchant, card)) {
            throw new IllegalStateException("the pile is empty, or the merchant owns too many cards");
        }
        game.market.gain(merchant, card);
        return game.market.pile.get(card);
    }

    public int trash(int merchant, int card) throws IndexOutOfBoundsException, IllegalStateException {
        checkMerchant(merchant);
        checkCard(card);
        Trader trader = game.market.trader(merchant);
        int place = trader.discards.find(card, 0);
        if (place == NONE) {
            throw new IllegalStateException("there is no such card among the discards");
        }
        trader.discards.cut(place, 1);
        trader.lose(card);
        return place;
    }

    public int shuffle(int merchant) throws IndexOutOfBoundsException {
        checkMerchant(merchant);
        Trader trader = game.market.trader(merchant);
        trader.mixDiscards();
        return trader.deckSize();
    }

    // ---- rounds

    public int play(int rounds) throws IllegalArgumentException {
        checkRounds(rounds, MOST_ROUNDS);
        return game.playRounds(rounds, NONE);
    }

    // ---- what would be

    public int next(int merchant, int what) throws IndexOutOfBoundsException {
        checkMerchant(merchant);
        checkWhat(what, 4);
        trial.market.copy(game.market);
        trial.takeTurn(merchant, NONE);
        return trial.turnNumber(what);
    }

    public int foresee(int rounds, int what) throws IllegalArgumentException, IndexOutOfBoundsException {
        checkRounds(rounds, MOST_ROUNDS);
        if (what != 0 && (what < 4 || what > 7)) {
            throw new IndexOutOfBoundsException("there is no such thing to foresee");
        }
        trial.market.copy(game.market);
        trial.playRounds(rounds, NONE);
        return what == 0 ? trial.market.worthiest() : trial.market.number(what);
    }

    public int missed(int merchant, int rounds) throws IndexOutOfBoundsException, IllegalArgumentException {
        checkMerchant(merchant);
        checkRounds(rounds, MOST_TRIED_ROUNDS);
        Rules rules = game.market.rules;
        int found = NONE;
        int least = 0;
        for (int order = 0; order < rules.orders; order++) {
            if (rules.orderMerchant.get(order) == merchant) {
                trial.market.copy(game.market);
                trial.playRounds(rounds, order);
                int worth = trial.market.worth(merchant);
                if (found == NONE || worth < least) {
                    found = order;
                    least = worth;
                }
            }
        }
        return found;
    }

    public int advise(int merchant, int rounds) throws IndexOutOfBoundsException, IllegalArgumentException {
        checkMerchant(merchant);
        checkRounds(rounds, MOST_TRIED_ROUNDS);
        int found = NONE;
        int most = 0;
        for (int card = 0; card < game.market.rules.cards; card++) {
            if (game.market.canGain(merchant, card)) {
                trial.market.copy(game.market);
                trial.market.gain(merchant, card);
                trial.playRounds(rounds, NONE);
                int worth = trial.market.worth(merchant);
                if (found == NONE || worth > most) {
                    found = card;
                    most = worth;
                }
            }
        }
        return found;
    }

    public double mean() {
        int merchants = game.market.rules.merchants;
        if (merchants == 0) {
            return 0.0;
        }
        int worth = 0;
        for (int merchant = 0; merchant < merchants; merchant++) {
            worth += game.market.worth(merchant);
        }
        return (double) worth / merchants;
    }

    public long digest() {
        Rules rules = game.market.rules;
        long d = 859;
        for (int what = 0; what <= 8; what++) {
            d = d * 31 + count(what);
        }
        for (int card = 0; card < rules.cards; card++) {
            for (int what = 0; what <= 6; what++) {
                d = d * 31 + card(card, what);
            }
        }
        for (int merchant = 0; merchant < rules.merchants; merchant++) {
            d = digestMerchant(d, merchant);
        }
        return d;
    }

    private long digestMerchant(long before, int merchant) {
        Trader trader = game.market.trader(merchant);
        long d = before;
        for (int what = 0; what <= 7; what++) {
            d = d * 31 + merchant(merchant, what);
        }
        for (int place = 0; place < trader.deckSize(); place++) {
            d = d * 31 + trader.deckCard(place);
        }
        for (int place = 0; place < trader.discards.size(); place++) {
            d = d * 31 + trader.discards.get(place);
        }
        return d;
    }

    private void checkWhat(int what, int most) {
        if (what < 0 || what > most) {
            throw new IndexOutOfBoundsException("there is no such thing to tell");
        }
    }

    private void checkCard(int card) {
        if (card < 0 || card >= game.market.rules.cards) {
            throw new IndexOutOfBoundsException("there is no such card");
        }
    }

    private void checkMerchant(int merchant) {
        if (merchant < 0 || merchant >= game.market.rules.merchants) {
            throw new IndexOutOfBoundsException("there is no such merchant");
        }
    }

    private void checkPlace(int place, int size) {
        if (place < 0 || place >= size) {
            throw new IndexOutOfBoundsException("there is no such place");
        }
    }

    private void checkRounds(int rounds, int most) {
        if (rounds < 1 || rounds > most) {
            throw new IllegalArgumentException("not so many rounds");
        }
    }

    /** Whole numbers in a row: a list that grows up to its room, or a table of all its places. */
    private static final class Row {
        private final int[] cells;
        private int size = 0;

        Row(int room) {
            cells = new int[room > 0 ? room : 0];
        }

        int size() {
            return size;
        }

        int get(int place) {
            return place >= 0 && place < cells.length ? cells[place] : 0;
        }

        void set(int place, int value) {
            if (place >= 0 && place < cells.length) {
                cells[place] = value;
            }
        }

        void raise(int place, int by) {
            if (place >= 0 && place < cells.length) {
                cells[place] += by;
            }
        }

        void exchange(int one, int other) {
            if (one >= 0 && one < cells.length && other >= 0 && other < cells.length) {
                int kept = cells[one];
                cells[one] = cells[other];
                cells[other] = kept;
            }
        }

        void add(int value) {
            if (size >= 0 && size < cells.length) {
                cells[size] = value;
                size++;
            }
        }

        void addAll(Row other) {
            for (int place = 0; place < other.size; place++) {
                add(other.get(place));
            }
        }

        int takeLast() {
            if (size < 1 || size > cells.length) {
                return 0;
            }
            size--;
            return cells[size];
        }

        void cut(int place, int many) {
            if (place >= 0 && many >= 0 && many <= size - place && size <= cells.length) {
                System.arraycopy(cells, place + many, cells, place, size - place - many);
                size -= many;
            }
        }

        int find(int value, int from) {
            for (int place = from; place < size; place++) {
                if (get(place) == value) {
                    return place;
                }
            }
            return NONE;
        }

        int sum() {
            int all = 0;
            for (int cell : cells) {
                all += cell;
            }
            return all;
        }

        void clear() {
            Arrays.fill(cells, 0);
            size = 0;
        }

        void copy(Row other) {
            if (other.cells.length == cells.length) {
                System.arraycopy(other.cells, 0, cells, 0, cells.length);
                size = other.size;
            }
        }
    }

    /** The bytes that were fed. */
    private static final class Tape {
        private final byte[] bytes = new byte[MOST_BYTES];
        private int length = 0;

        int length() {
            return length;
        }

        int at(int place) {
            return place >= 0 && place < length && place < bytes.length ? bytes[place] : 0;
        }

        void append(int four) {
            for (int shift = 24; shift >= 0; shift -= 8) {
                if (length >= 0 && length < bytes.length) {
                    bytes[length] = (byte) (four >> shift);
                    length++;
                }
            }
        }

        void shorten(int n) {
            if (n >= 0 && n < length) {
                length = n;
            }
        }
    }

    /** The sorts of tokens, with the text of those that have just one; formulas have them as operations. */
    private enum Sign {
        BAD(""), END(""), NAME(""), NUMBER(""), NEGATE(""),
        CARD("card"), COST("cost"), WORTH("worth"), COINS("coins"), DRAWS("draws"), BUYS("buys"),
        TRASH("trash"), COMBO("combo"), START("start"), OF("of"), PILE("pile"), MERCHANT("merchant"),
        BUY("buy"), FOR("for"), WHEN("when"), ROUND("round"), HAND("hand"), PLAYED("played"),
        OWNED("owned"), LEFT("left"), TRASHED("trashed"), NOT("not"), AND("and"), OR("or"),
        MIN("min"), MAX("max"),
        OPEN("("), CLOSE(")"), OPEN_TEST("["), CLOSE_TEST("]"), SEMICOLON(";"), COMMA(","),
        PLUS("+"), MINUS("-"), TIMES("*"), DIVIDED("/"),
        LESS("<"), MORE(">"), EQUAL("="), AT_MOST("<="), AT_LEAST(">=");

        private static final Sign[] ALL = values();

        private final String text;

        Sign(String text) {
            this.text = text;
        }

        /** The sign with these bytes as its text, BAD if there is none. */
        static Sign spelled(Tape tape, int from, int length) {
            for (Sign sign : ALL) {
                if (sign != null && sign.isSpelled(tape, from, length)) {
                    return sign;
                }
            }
            return BAD;
        }

        private boolean isSpelled(Tape tape, int from, int length) {
            if (text.length() == 0 || text.length() != length) {
                return false;
            }
            for (int i = 0; i < length; i++) {
                if (tape.at(from + i) != text.charAt(i)) {
                    return false;
                }
            }
            return true;
        }
    }

    /** The tokens of a tape, up to its end or the first bad one, and which of them is looked at. */
    private static final class Tokens {
        private static final int WORD_BYTES = 10;
        private static final int NUMBER_BYTES = 6;

        private final Sign[] signs = new Sign[MOST_TOKENS + 1];
        private final Row places = new Row(MOST_TOKENS + 1);
        private final long[] values = new long[MOST_TOKENS + 1];
        private int now = 0;
        private Sign readSign = Sign.END;
        private long readValue = 0;

        void scan(Tape tape) {
            now = 0;
            int place = 0;
            boolean ended = false;
            for (int token = 0; token <= MOST_TOKENS && !ended; token++) {
                place = behindBlanks(tape, place);
                int behind = readToken(tape, place);
                if (token == MOST_TOKENS && readSign != Sign.END) {
                    readSign = Sign.BAD;
                }
                keep(token, place);
                place = behind;
                ended = readSign == Sign.END || readSign == Sign.BAD;
            }
        }

        Sign sign() {
            Sign sign = now >= 0 && now < signs.length ? signs[now] : Sign.END;
            return sign == null ? Sign.END : sign;
        }

        long value() {
            return now >= 0 && now < values.length ? values[now] : 0;
        }

        int place() {
            return places.get(now);
        }

        boolean isEither(Sign one, Sign other) {
            return sign() == one || sign() == other;
        }

        void advance() {
            now++;
        }

        /** Goes on if this token is of that sort, and stays otherwise. */
        boolean take(Sign sign) {
            if (sign() != sign) {
                return false;
            }
            advance();
            return true;
        }

        private void keep(int token, int place) {
            if (token >= 0 && token < signs.length && token < values.length) {
                signs[token] = readSign;
                values[token] = readValue;
                places.set(token, place);
            }
        }

        private static int behindBlanks(Tape tape, int from) {
            int place = from;
            while (place < tape.length() && (tape.at(place) == ' ' || tape.at(place) == '\n')) {
                place++;
            }
            return place;
        }

        private int readToken(Tape tape, int place) {
            readValue = 0;
            if (place >= tape.length()) {
                readSign = Sign.END;
                return place;
            }
            if (isLetter(tape.at(place))) {
                return readWord(tape, place);
            }
            if (isDigit(tape.at(place))) {
                return readNumber(tape, place);
            }
            return readSymbol(tape, place);
        }

        /** A name's value is its bytes as digits to the base 37: ten of them fit, and no two names have the same. */
        private int readWord(Tape tape, int from) {
            int place = from;
            while (place < tape.length() && (isLetter(tape.at(place)) || isDigit(tape.at(place)))) {
                int letter = tape.at(place);
                readValue = readValue * 37 + (isDigit(letter) ? letter - '0' + 1 : letter - 'a' + 11);
                place++;
            }
            int length = place - from;
            readSign = Sign.BAD;
            if (length <= WORD_BYTES) {
                Sign keyword = Sign.spelled(tape, from, length);
                readSign = keyword == Sign.BAD ? Sign.NAME : keyword;
            }
            return place;
        }

        private int readNumber(Tape tape, int from) {
            int place = from;
            while (place < tape.length() && isDigit(tape.at(place))) {
                readValue = readValue * 10 + (tape.at(place) - '0');
                place++;
            }
            readSign = place - from <= NUMBER_BYTES ? Sign.NUMBER : Sign.BAD;
            return place;
        }

        private int readSymbol(Tape tape, int place) {
            readSign = Sign.spelled(tape, place, 2);
            if (readSign != Sign.BAD) {
                return place + 2;
            }
            readSign = Sign.spelled(tape, place, 1);
            return place + 1;
        }

        private static boolean isLetter(int b) {
            return b >= 'a' && b <= 'z';
        }

        private static boolean isDigit(int b) {
            return b >= '0' && b <= '9';
        }
    }

    /** Sums and tests behind one another, each in the order of reckoning (operands ahead), ended by END. */
    private static final class Formulas {
        private final Sign[] operations = new Sign[MOST_TOKENS];
        private final Row operands = new Row(MOST_TOKENS);

        int size() {
            return operands.size();
        }

        void clear() {
            operands.clear();
        }

        void add(Sign operation, int operand) {
            int place = operands.size();
            if (place >= 0 && place < operations.length) {
                operations[place] = operation;
                operands.add(operand);
            }
        }

        Sign operation(int place) {
            Sign sign = place >= 0 && place < operations.length ? operations[place] : Sign.END;
            return sign == null ? Sign.END : sign;
        }

        int operand(int place) {
            return operands.get(place);
        }
    }

    /** What a list tells; the deeds of a card are numbered from MOST_DEEDS times its number. */
    private static final class Rules {
        private int cards = 0;
        private int merchants = 0;
        private int orders = 0;
        private final Row cost = new Row(MOST_CARDS);
        private final Row worth = new Row(MOST_CARDS);
        private final Row pile = new Row(MOST_CARDS);
        private final Row start = new Row(MOST_STARTS);
        private final Row deeds = new Row(MOST_CARDS);
        private final Sign[] deedKinds = new Sign[MOST_CARDS * MOST_DEEDS];
        private final Row deedCard = new Row(MOST_CARDS * MOST_DEEDS);
        private final Row deedSum = new Row(MOST_CARDS * MOST_DEEDS);
        private final Row orderMerchant = new Row(MOST_ORDERS);
        private final Row orderCard = new Row(MOST_ORDERS);
        private final Row orderTest = new Row(MOST_ORDERS);
        private final Formulas formulas = new Formulas();

        void clear() {
            cards = 0;
            merchants = 0;
            orders = 0;
            cost.clear();
            worth.clear();
            pile.clear();
            start.clear();
            deeds.clear();
            formulas.clear();
        }

        Sign deedKind(int deed) {
            Sign kind = deed >= 0 && deed < deedKinds.length ? deedKinds[deed] : Sign.BAD;
            return kind == null ? Sign.BAD : kind;
        }

        void setDeed(int deed, Sign kind, int sum) {
            if (deed >= 0 && deed < deedKinds.length) {
                deedKinds[deed] = kind;
                deedCard.set(deed, 0);
                deedSum.set(deed, sum);
            }
        }
    }

    /** Writes what is told into rules, up to the first of the errors 2 to 5, which it keeps. */
    private static final class Scribe {
        private final long[] cardNames = new long[MOST_CARDS];
        private final long[] merchantNames = new long[MOST_MERCHANTS];
        private Rules rules = new Rules();
        private int error = 0;
        private int errorPlace = NONE;
        private int number = 0;

        void begin(Rules empty) {
            rules = empty;
            error = 0;
            errorPlace = NONE;
        }

        int error() {
            return error;
        }

        int errorPlace() {
            return errorPlace;
        }

        void writeNumber(Sign use, int told, int place) {
            number = told;
            if (use == Sign.START && told > MOST_STARTS - rules.start.size()) {
                fault(4, place);
            }
            if (told > most(use) || use == Sign.START && told < 1) {
                fault(5, place);
            }
            if (error == 0 && use == Sign.COST) {
                rules.cost.set(rules.cards - 1, told);
            } else if (error == 0 && use == Sign.WORTH) {
                rules.worth.set(rules.cards - 1, told);
            }
        }

        private static int most(Sign use) {
            return use == Sign.START ? MOST_STARTS : use == Sign.PILE ? MOST_PILE : MOST_COST_OR_WORTH;
        }

        void writeName(Sign use, long name, int place) {
            if (error != 0) {
                return;
            }
            if (use == Sign.CARD) {
                addCard(name, place);
            } else if (use == Sign.MERCHANT) {
                addMerchant(name, place);
            } else {
                writeNamed(use, use == Sign.FOR ? merchantNamed(name, place) : cardNamed(name, place));
            }
        }

        int cardNamed(long name, int place) {
            int card = find(cardNames, rules.cards, name);
            if (card == NONE) {
                fault(3, place);
            }
            return card;
        }

        private int merchantNamed(long name, int place) {
            int merchant = find(merchantNames, rules.merchants, name);
            if (merchant == NONE) {
                fault(3, place);
            }
            return merchant;
        }

        void writeDeed(Sign kind, int place) {
            int card = rules.cards - 1;
            int before = rules.deeds.get(card);
            if (before >= MOST_DEEDS) {
                fault(4, place);
            }
            if (error == 0) {
                rules.setDeed(card * MOST_DEEDS + before, kind, rules.formulas.size());
                rules.deeds.set(card, before + 1);
            }
        }

        void writeOrder(int place) {
            if (rules.orders >= MOST_ORDERS) {
                fault(4, place);
            }
            if (error == 0) {
                rules.orderTest.set(rules.orders, NONE);
                rules.orders++;
            }
        }

        void writeTest() {
            if (error == 0) {
                rules.orderTest.set(rules.orders - 1, rules.formulas.size());
            }
        }

        private void fault(int found, int place) {
            if (error == 0) {
                error = found;
                errorPlace = place;
            }
        }

        private void addCard(long name, int place) {
            if (find(cardNames, rules.cards, name) != NONE) {
                fault(2, place);
            } else if (rules.cards < 0 || rules.cards >= cardNames.length) {
                fault(4, place);
            } else {
                cardNames[rules.cards] = name;
                rules.cards++;
            }
        }

        private void addMerchant(long name, int place) {
            if (find(merchantNames, rules.merchants, name) != NONE) {
                fault(2, place);
            } else if (rules.merchants < 0 || rules.merchants >= merchantNames.length) {
                fault(4, place);
            } else {
                merchantNames[rules.merchants] = name;
                rules.merchants++;
            }
        }

        private void writeNamed(Sign use, int named) {
            if (named == NONE) {
                return;
            }
            int card = rules.cards - 1;
            switch (use) {
                case START:
                    for (int i = 0; i < number && i < MOST_STARTS; i++) {
                        rules.start.add(named);
                    }
                    break;
                case PILE:
                    rules.pile.set(named, number);
                    break;
                case BUY:
                    rules.orderCard.set(rules.orders - 1, named);
                    break;
                case FOR:
                    rules.orderMerchant.set(rules.orders - 1, named);
                    break;
                case TRASH:
                case COMBO:
                    rules.deedCard.set(card * MOST_DEEDS + rules.deeds.get(card) - 1, named);
                    break;
                default:
                    break;
            }
        }

        private static int find(long[] names, int many, long name) {
            for (int i = 0; i < many && i < names.length; i++) {
                if (names[i] == name) {
                    return i;
                }
            }
            return NONE;
        }
    }

    /** Reads the tokens by the grammar; each part answers false at a token that can't stand there, and stays at it. */
    private static final class Grammar {
        private final Tokens tokens = new Tokens();
        private final Scribe scribe = new Scribe();
        private Formulas formulas = new Formulas();
        private boolean whole = true;

        int read(Tape tape, Rules rules) {
            tokens.scan(tape);
            scribe.begin(rules);
            formulas = rules.formulas;
            whole = true;
            for (int lines = 0; lines < MOST_TOKENS && whole && tokens.sign() != Sign.END; lines++) {
                whole = line() && tokens.take(Sign.SEMICOLON);
            }
            whole = whole && tokens.sign() == Sign.END;
            return whole ? scribe.error() : 1;
        }

        int errorPlace() {
            return whole ? scribe.errorPlace() : tokens.place();
        }

        private boolean line() {
            switch (tokens.sign()) {
                case CARD:
                    return tokens.take(Sign.CARD) && name(Sign.CARD) && tokens.take(Sign.COST) && number(Sign.COST)
                        && tokens.take(Sign.WORTH) && number(Sign.WORTH) && deeds();
                case START:
                    return tokens.take(Sign.START) && number(Sign.START) && tokens.take(Sign.OF) && name(Sign.START);
                case PILE:
                    return tokens.take(Sign.PILE) && number(Sign.PILE) && tokens.take(Sign.OF) && name(Sign.PILE);
                case MERCHANT:
                    return tokens.take(Sign.MERCHANT) && name(Sign.MERCHANT);
                case BUY:
                    scribe.writeOrder(tokens.place());
                    return tokens.take(Sign.BUY) && name(Sign.BUY) && tokens.take(Sign.FOR) && name(Sign.FOR) && when();
                default:
                    return false;
            }
        }

        private boolean name(Sign use) {
            if (tokens.sign() != Sign.NAME) {
                return false;
            }
            scribe.writeName(use, tokens.value(), tokens.place());
            tokens.advance();
            return true;
        }

        private boolean number(Sign use) {
            if (tokens.sign() != Sign.NUMBER) {
                return false;
            }
            scribe.writeNumber(use, (int) tokens.value(), tokens.place());
            tokens.advance();
            return true;
        }

        private boolean when() {
            if (!tokens.take(Sign.WHEN)) {
                return true;
            }
            scribe.writeTest();
            boolean good = test(0);
            formulas.add(Sign.END, 0);
            return good;
        }

        private boolean deeds() {
            boolean good = true;
            for (int deed = 0; deed < MOST_TOKENS && good && isDeed(tokens.sign()); deed++) {
                Sign kind = tokens.sign();
                scribe.writeDeed(kind, tokens.place());
                tokens.advance();
                boolean naming = kind == Sign.TRASH || kind == Sign.COMBO;
                good = (!naming || name(kind)) && (kind == Sign.TRASH || sum(0));
                formulas.add(Sign.END, 0);
            }
            return good;
        }

        private static boolean isDeed(Sign sign) {
            return sign == Sign.COINS || sign == Sign.DRAWS || sign == Sign.BUYS
                || sign == Sign.TRASH || sign == Sign.COMBO;
        }

        private boolean test(int depth) {
            boolean good = both(depth);
            for (int i = 0; i < MOST_TOKENS && good && tokens.take(Sign.OR); i++) {
                good = both(depth);
                formulas.add(Sign.OR, 0);
            }
            return good;
        }

        private boolean both(int depth) {
            boolean good = single(depth);
            for (int i = 0; i < MOST_TOKENS && good && tokens.take(Sign.AND); i++) {
                good = single(depth);
                formulas.add(Sign.AND, 0);
            }
            return good;
        }

        private boolean single(int depth) {
            Sign sign = tokens.sign();
            if (sign == Sign.NOT || sign == Sign.OPEN_TEST) {
                if (depth >= MOST_DEPTH) {
                    return false;
                }
                tokens.advance();
                if (sign == Sign.OPEN_TEST) {
                    return test(depth + 1) && tokens.take(Sign.CLOSE_TEST);
                }
                boolean good = single(depth + 1);
                formulas.add(Sign.NOT, 0);
                return good;
            }
            if (!sum(depth) || !isComparison(tokens.sign())) {
                return false;
            }
            Sign comparison = tokens.sign();
            tokens.advance();
            boolean good = sum(depth);
            formulas.add(comparison, 0);
            return good;
        }

        private static boolean isComparison(Sign sign) {
            return sign == Sign.LESS || sign == Sign.MORE || sign == Sign.EQUAL
                || sign == Sign.AT_MOST || sign == Sign.AT_LEAST;
        }

        private boolean sum(int depth) {
            boolean good = product(depth);
            for (int i = 0; i < MOST_TOKENS && good && tokens.isEither(Sign.PLUS, Sign.MINUS); i++) {
                Sign sign = tokens.sign();
                tokens.advance();
                good = product(depth);
                formulas.add(sign, 0);
            }
            return good;
        }

        private boolean product(int depth) {
            boolean good = value(depth);
            for (int i = 0; i < MOST_TOKENS && good && tokens.isEither(Sign.TIMES, Sign.DIVIDED); i++) {
                Sign sign = tokens.sign();
                tokens.advance();
                good = value(depth);
                formulas.add(sign, 0);
            }
            return good;
        }

        private boolean value(int depth) {
            Sign sign = tokens.sign();
            boolean good;
            switch (sign) {
                case NUMBER:
                case ROUND:
                case COINS:
                case BUYS:
                case HAND:
                case TRASHED:
                    formulas.add(sign, (int) tokens.value());
                    tokens.advance();
                    return true;
                case PLAYED:
                case OWNED:
                case LEFT:
                    tokens.advance();
                    if (tokens.sign() != Sign.NAME) {
                        return false;
                    }
                    formulas.add(sign, scribe.cardNamed(tokens.value(), tokens.place()));
                    tokens.advance();
                    return true;
                case MIN:
                case MAX:
                    tokens.advance();
                    good = pair(depth);
                    formulas.add(sign, 0);
                    return good;
                case MINUS:
                    if (depth >= MOST_DEPTH) {
                        return false;
                    }
                    tokens.advance();
                    good = value(depth + 1);
                    formulas.add(Sign.NEGATE, 0);
                    return good;
                case OPEN:
                    return depth < MOST_DEPTH && tokens.take(Sign.OPEN) && sum(depth + 1) && tokens.take(Sign.CLOSE);
                default:
                    return false;
            }
        }

        private boolean pair(int depth) {
            return depth < MOST_DEPTH && tokens.take(Sign.OPEN) && sum(depth + 1)
                && tokens.take(Sign.COMMA) && sum(depth + 1) && tokens.take(Sign.CLOSE);
        }
    }

    /** A merchant: cards and seed, and what was counted of it. */
    private static final class Trader {
        private final Row deck = new Row(MOST_OWNED);
        private final Row discards = new Row(MOST_OWNED);
        private final Row owned = new Row(MOST_CARDS);
        private int drawn = 0;
        private int ownedInAll = 0;
        private int seed = 1;
        private int trashed = 0;
        private int bought = 0;
        private int coins = 0;
        private int shuffles = 0;

        void begin(int merchant, Row start) {
            deck.clear();
            discards.clear();
            owned.clear();
            drawn = 0;
            ownedInAll = 0;
            seed = 7 * merchant + 1;
            trashed = 0;
            bought = 0;
            coins = 0;
            shuffles = 0;
            for (int i = 0; i < start.size(); i++) {
                gain(start.get(i));
            }
        }

        void copy(Trader other) {
            deck.copy(other.deck);
            discards.copy(other.discards);
            owned.copy(other.owned);
            drawn = other.drawn;
            ownedInAll = other.ownedInAll;
            seed = other.seed;
            trashed = other.trashed;
            bought = other.bought;
            coins = other.coins;
            shuffles = other.shuffles;
        }

        /** What merchant() tells, but for the worth, which takes the rules. */
        int number(int what) {
            switch (what) {
                case 0:
                    return deckSize();
                case 1:
                    return discards.size();
                case 2:
                    return seed;
                case 4:
                    return trashed;
                case 5:
                    return bought;
                case 6:
                    return coins;
                case 7:
                    return shuffles;
                default:
                    return 0;
            }
        }

        // The row keeps the cards that were drawn from it till the next shuffling: so drawing moves no other card.
        int deckSize() {
            return deck.size() - drawn;
        }

        int deckCard(int place) {
            return deck.get(drawn + place);
        }

        int drawTop() {
            drawn++;
            return deck.get(drawn - 1);
        }

        void gain(int card) {
            discards.add(card);
            owned.raise(card, 1);
            ownedInAll++;
        }

        void lose(int card) {
            owned.raise(card, -1);
            ownedInAll--;
            trashed++;
        }

        void mixDiscards() {
            if (discards.size() == 0) {
                return;
            }
            for (int place = discards.size() - 1; place > 0; place--) {
                seed = (seed * 193 + 71) % 1021;
                discards.exchange(place, seed % (place + 1));
            }
            deck.cut(0, drawn);
            drawn = 0;
            for (int place = 0; place < discards.size(); place++) {
                deck.add(discards.get(place));
            }
            discards.clear();
            shuffles++;
        }
    }

    /** All that changes in the play. */
    private static final class Market {
        private final Row pile = new Row(MOST_CARDS);
        private final Row played = new Row(MOST_CARDS);
        private final Row bought = new Row(MOST_CARDS);
        private final Trader[] traders = new Trader[MOST_MERCHANTS];
        private final Trader nobody = new Trader();
        private Rules rules = new Rules();
        private int round = 0;

        Market() {
            for (int merchant = 0; merchant < traders.length; merchant++) {
                traders[merchant] = new Trader();
            }
        }

        void begin(Rules told) {
            rules = told;
            round = 0;
            pile.copy(told.pile);
            played.clear();
            bought.clear();
            for (int merchant = 0; merchant < MOST_MERCHANTS; merchant++) {
                trader(merchant).begin(merchant, told.start);
            }
        }

        void copy(Market other) {
            rules = other.rules;
            round = other.round;
            pile.copy(other.pile);
            played.copy(other.played);
            bought.copy(other.bought);
            for (int merchant = 0; merchant < MOST_MERCHANTS; merchant++) {
                trader(merchant).copy(other.trader(merchant));
            }
        }

        Trader trader(int merchant) {
            Trader trader = merchant >= 0 && merchant < traders.length ? traders[merchant] : nobody;
            return trader == null ? nobody : trader;
        }

        /** What count() tells, but for the tape. */
        int number(int what) {
            switch (what) {
                case 0:
                    return round;
                case 1:
                    return rules.cards;
                case 2:
                    return rules.merchants;
                case 3:
                    return rules.orders;
                case 4:
                    return pile.sum();
                default:
                    return numberOfAll(what);
            }
        }

        private int numberOfAll(int what) {
            int all = 0;
            for (int merchant = 0; merchant < rules.merchants; merchant++) {
                Trader trader = trader(merchant);
                all += what == 5 ? trader.ownedInAll : what == 6 ? trader.trashed : trader.bought;
            }
            return all;
        }

        int cardNumber(int card, int what) {
            switch (what) {
                case 0:
                    return rules.cost.get(card);
                case 1:
                    return rules.worth.get(card);
                case 2:
                    return rules.deeds.get(card);
                case 3:
                    return pile.get(card);
                case 4:
                    return ownedByAll(card);
                case 5:
                    return played.get(card);
                default:
                    return bought.get(card);
            }
        }

        private int ownedByAll(int card) {
            int all = 0;
            for (int merchant = 0; merchant < rules.merchants; merchant++) {
                all += trader(merchant).owned.get(card);
            }
            return all;
        }

        int worth(int merchant) {
            Row owned = trader(merchant).owned;
            int all = 0;
            for (int card = 0; card < rules.cards; card++) {
                all += owned.get(card) * rules.worth.get(card);
            }
            return all;
        }

        int worthiest() {
            int found = NONE;
            for (int merchant = 0; merchant < rules.merchants; merchant++) {
                if (found == NONE || isAhead(merchant, found)) {
                    found = merchant;
                }
            }
            return found;
        }

        private boolean isAhead(int one, int other) {
            if (worth(one) != worth(other)) {
                return worth(one) > worth(other);
            }
            return trader(one).ownedInAll < trader(other).ownedInAll;
        }

        boolean canGain(int merchant, int card) {
            return pile.get(card) > 0 && trader(merchant).ownedInAll < MOST_OWNED;
        }

        void gain(int merchant, int card) {
            pile.raise(card, -1);
            trader(merchant).gain(card);
        }
    }

    /** Plays turns and rounds in its market. */
    private static final class Game {
        private final Market market = new Market();
        private final Row hand = new Row(MOST_OWNED);
        private final Row played = new Row(MOST_CARDS);
        private final Row stack = new Row(MOST_TOKENS);
        private Trader trader = new Trader();
        private int coins = 0;
        private int buys = 0;
        private int buysPlayed = 0;
        private int cardsPlayed = 0;
        private int cardsTrashed = 0;
        private int cardsBought = 0;

        /** Returns how many cards are bought; an order that is skipped is not looked at (NONE: all are). */
        int playRounds(int rounds, int skipped) {
            int all = 0;
            for (int i = 0; i < rounds; i++) {
                for (int merchant = 0; merchant < market.rules.merchants; merchant++) {
                    takeTurn(merchant, skipped);
                    all += cardsBought;
                }
                market.round++;
            }
            return all;
        }

        void takeTurn(int merchant, int skipped) {
            trader = market.trader(merchant);
            hand.clear();
            played.clear();
            coins = 0;
            buys = 1;
            cardsPlayed = 0;
            cardsTrashed = 0;
            cardsBought = 0;
            draw(FIRST_DRAWS);
            playHand();
            trader.coins = coins;
            buysPlayed = buys;
            followOrders(merchant, skipped);
            trader.discards.addAll(hand);
        }

        /** What next() tells of the latest turn. */
        int turnNumber(int what) {
            switch (what) {
                case 0:
                    return trader.coins;
                case 1:
                    return buysPlayed;
                case 2:
                    return cardsPlayed;
                case 3:
                    return cardsTrashed;
                default:
                    return cardsBought;
            }
        }

        private void draw(int many) {
            for (int i = 0; i < many; i++) {
                if (trader.deckSize() == 0) {
                    trader.mixDiscards();
                }
                if (trader.deckSize() > 0) {
                    hand.add(trader.drawTop());
                }
            }
        }

        private void playHand() {
            for (int place = 0; place < MOST_PLAYED && place < hand.size(); place++) {
                int card = hand.get(place);
                cardsPlayed++;
                played.raise(card, 1);
                market.played.raise(card, 1);
                for (int deed = 0; deed < market.rules.deeds.get(card); deed++) {
                    doDeed(card, card * MOST_DEEDS + deed);
                }
            }
        }

        private void doDeed(int card, int deed) {
            Rules rules = market.rules;
            int named = rules.deedCard.get(deed);
            int sum = rules.deedSum.get(deed);
            switch (rules.deedKind(deed)) {
                case COINS:
                    coins = held((long) coins + reckon(sum), MOST_COINS);
                    break;
                case DRAWS:
                    draw(held(reckon(sum), MOST_DRAWS));
                    break;
                case BUYS:
                    buys = held((long) buys + reckon(sum), MOST_BUYS);
                    break;
                case TRASH:
                    trashUnplayed(named);
                    break;
                case COMBO:
                    // The card that is being played is counted as played, but is not ahead of itself.
                    if (played.get(named) > (named == card ? 1 : 0)) {
                        coins = held((long) coins + reckon(sum), MOST_COINS);
                    }
                    break;
                default:
                    break;
            }
        }

        private static int held(long number, int most) {
            return number < 0 ? 0 : number > most ? most : (int) number;
        }

        private void trashUnplayed(int card) {
            int place = hand.find(card, cardsPlayed);
            if (place != NONE) {
                hand.cut(place, 1);
                trader.lose(card);
                cardsTrashed++;
            }
        }

        private void followOrders(int merchant, int skipped) {
            Rules rules = market.rules;
            for (int order = 0; order < rules.orders; order++) {
                if (order != skipped && rules.orderMerchant.get(order) == merchant) {
                    follow(merchant, rules.orderCard.get(order), rules.orderTest.get(order));
                }
            }
        }

        private void follow(int merchant, int card, int test) {
            int cost = market.rules.cost.get(card);
            if (buys > 0 && coins >= cost && market.canGain(merchant, card) && (test == NONE || reckon(test) != 0)) {
                market.gain(merchant, card);
                market.bought.raise(card, 1);
                trader.bought++;
                cardsBought++;
                coins -= cost;
                buys--;
            }
        }

        private int reckon(int formula) {
            Formulas formulas = market.rules.formulas;
            for (int place = formula; place < formulas.size() && formulas.operation(place) != Sign.END; place++) {
                Sign operation = formulas.operation(place);
                if (operation == Sign.NEGATE) {
                    stack.add(-stack.takeLast());
                } else if (operation == Sign.NOT) {
                    stack.add(1 - stack.takeLast());
                } else if (isJoining(operation)) {
                    int right = stack.takeLast();
                    int left = stack.takeLast();
                    stack.add(joined(operation, left, right));
                } else {
                    stack.add(known(operation, formulas.operand(place)));
                }
            }
            return stack.takeLast();
        }

        private int known(Sign operation, int operand) {
            switch (operation) {
                case ROUND:
                    return market.round;
                case COINS:
                    return coins;
                case BUYS:
                    return buys;
                case HAND:
                    return hand.size();
                case TRASHED:
                    return trader.trashed;
                case PLAYED:
                    return played.get(operand);
                case OWNED:
                    return trader.owned.get(operand);
                case LEFT:
                    return market.pile.get(operand);
                default:
                    return operand;
            }
        }

        private static boolean isJoining(Sign operation) {
            switch (operation) {
                case NUMBER:
                case ROUND:
                case COINS:
                case BUYS:
                case HAND:
                case TRASHED:
                case PLAYED:
                case OWNED:
                case LEFT:
                    return false;
                default:
                    return true;
            }
        }

        private static int joined(Sign operation, int left, int right) {
            switch (operation) {
                case PLUS:
                    return left + right;
                case MINUS:
                    return left - right;
                case TIMES:
                    return left * right;
                case DIVIDED:
                    return right == 0 ? 0 : left / right;
                case MIN:
                    return Math.min(left, right);
                case MAX:
                    return Math.max(left, right);
                case LESS:
                    return left < right ? 1 : 0;
                case MORE:
                    return left > right ? 1 : 0;
                case EQUAL:
                    return left == right ? 1 : 0;
                case AT_MOST:
                    return left <= right ? 1 : 0;
                case AT_LEAST:
                    return left >= right ? 1 : 0;
                case AND:
                    return left & right;
                case OR:
                    return left | right;
                default:
                    return 0;
            }
        }
    }
}
