import java.util.ArrayList;
import java.util.Arrays;
import java.util.HashMap;
import java.util.List;
import java.util.Map;
import java.util.regex.Matcher;
import java.util.regex.Pattern;

/**
 * The document once more, written in another way (trees, lists, copies of all) and slowly, for the random runs to be
 * compared with. It throws what the document names.
 */
final class ReferenceModel {
    private static final Pattern TOKEN = Pattern.compile("[a-z][a-z0-9]*|[0-9]+|<=|>=|[\\[\\]();,+*/<>=-]");
    private static final List<String> KEYWORDS = Arrays.asList(("card cost worth coins draws buys trash combo start of pile "
        + "merchant buy for when round hand played owned left trashed not and or min max").split(" "));

    // ---- what is told

    private static final class Told {
        final List<String> cards = new ArrayList<>();
        final List<String> merchants = new ArrayList<>();
        final Map<Integer, Integer> cost = new HashMap<>();
        final Map<Integer, Integer> worth = new HashMap<>();
        final Map<Integer, Integer> pile = new HashMap<>();
        final Map<Integer, List<Deed>> deeds = new HashMap<>();
        final List<Integer> start = new ArrayList<>();
        final List<Order> orders = new ArrayList<>();
    }

    private static final class Deed {
        String kind;
        String card;
        Sum sum;
    }

    private static final class Order {
        String card;
        String merchant;
        Test test;
    }

    private interface Sum {
        int of(Turn turn);
    }

    private interface Test {
        boolean of(Turn turn);
    }

    private static final class Token {
        final String text;
        final int place;

        Token(String text, int place) {
            this.text = text;
            this.place = place;
        }
    }

    private static final class Wrong extends Exception {
        private static final long serialVersionUID = 1;
        final int error;
        final int place;

        Wrong(int error, int place) {
            this.error = error;
            this.place = place;
        }
    }

    private static boolean isNumber(String text) {
        return text.matches("[0-9]+");
    }

    private static boolean isName(String text) {
        return text.matches("[a-z][a-z0-9]*") && !KEYWORDS.contains(text);
    }

    /** "" is the end, "?" what is no token. */
    private static List<Token> tokens(String tape) {
        List<Token> found = new ArrayList<>();
        Matcher matcher = TOKEN.matcher(tape);
        int place = 0;
        while (true) {
            while (place < tape.length() && " \n".indexOf(tape.charAt(place)) >= 0) {
                place++;
            }
            if (place == tape.length()) {
                found.add(new Token("", place));
                return found;
            }
            matcher.region(place, tape.length());
            boolean good = found.size() < 400 && matcher.lookingAt()
                && matcher.group().length() <= (isNumber(matcher.group()) ? 6 : 10);
            found.add(new Token(good ? matcher.group() : "?", place));
            if (!good) {
                return found;
            }
            place = matcher.end();
        }
    }

    // ---- error 1, and the trees

    private static final class Parser {
        final List<Token> tokens;
        final List<Token> deedStarts = new ArrayList<>();
        final Told told = new Told();
        int at = 0;
        int depth = 0;

        Parser(List<Token> tokens) {
            this.tokens = tokens;
        }

        String now() {
            return tokens.get(at).text;
        }

        Wrong wrong() {
            return new Wrong(1, tokens.get(at).place);
        }

        String skip(String... texts) throws Wrong {
            for (String text : texts) {
                if (now().equals(text)) {
                    at++;
                    return text;
                }
            }
            throw wrong();
        }

        boolean sees(String... texts) {
            return Arrays.asList(texts).contains(now());
        }

        String name() throws Wrong {
            if (!isName(now())) {
                throw wrong();
            }
            return tokens.get(at++).text;
        }

        int number() throws Wrong {
            if (!isNumber(now())) {
                throw wrong();
            }
            return Integer.parseInt(tokens.get(at++).text);
        }

        void deeper(String text) throws Wrong {
            if (depth == 8 && sees(text)) {
                throw wrong();
            }
            skip(text);
            depth++;
        }

        void list() throws Wrong {
            while (!sees("")) {
                line();
                skip(";");
            }
        }

        void line() throws Wrong {
            switch (skip("card", "start", "pile", "merchant", "buy")) {
                case "card":
                    told.cards.add(name());
                    int card = told.cards.size() - 1;
                    skip("cost");
                    told.cost.put(card, number());
                    skip("worth");
                    told.worth.put(card, number());
                    told.deeds.put(card, new ArrayList<>());
                    while (sees("coins", "draws", "buys", "trash", "combo")) {
                        told.deeds.get(card).add(deed());
                    }
                    break;
                case "start":
                    int many = number();
                    skip("of");
                    String starting = name();
                    for (int i = 0; i < many && i < 21; i++) {
                        told.start.add(told.cards.indexOf(starting));
                    }
                    break;
                case "pile":
                    int high = number();
                    skip("of");
                    told.pile.put(told.cards.indexOf(name()), high);
                    break;
                case "merchant":
                    told.merchants.add(name());
                    break;
                default:
                    Order order = new Order();
                    order.card = name();
                    skip("for");
                    order.merchant = name();
                    if (sees("when")) {
                        skip("when");
                        order.test = test();
                    }
                    told.orders.add(order);
                    break;
            }
        }

        Deed deed() throws Wrong {
            Deed deed = new Deed();
            deedStarts.add(tokens.get(at));
            deed.kind = skip("coins", "draws", "buys", "trash", "combo");
            if (deed.kind.equals("trash") || deed.kind.equals("combo")) {
                deed.card = name();
            }
            if (!deed.kind.equals("trash")) {
                deed.sum = sum();
            }
            return deed;
        }

        Test test() throws Wrong {
            Test left = both();
            while (sees("or")) {
                skip("or");
                Test one = left;
                Test other = both();
                left = t -> one.of(t) || other.of(t);
            }
            return left;
        }

        Test both() throws Wrong {
            Test left = single();
            while (sees("and")) {
                skip("and");
                Test one = left;
                Test other = single();
                left = t -> one.of(t) && other.of(t);
            }
            return left;
        }

        Test single() throws Wrong {
            if (sees("not")) {
                deeper("not");
                Test inner = single();
                depth--;
                return t -> !inner.of(t);
            }
            if (sees("[")) {
                deeper("[");
                Test inner = test();
                skip("]");
                depth--;
                return inner;
            }
            Sum one = sum();
            String sign = skip("<", ">", "=", "<=", ">=");
            Sum other = sum();
            return t -> {
                int order = Integer.compare(one.of(t), other.of(t));
                return order < 0 ? sign.startsWith("<") : order > 0 ? sign.startsWith(">") : sign.endsWith("=");
            };
        }

        Sum sum() throws Wrong {
            Sum left = product();
            while (sees("+", "-")) {
                boolean plus = skip("+", "-").equals("+");
                Sum one = left;
                Sum other = product();
                left = t -> (int) ((long) one.of(t) + (plus ? 1L : -1L) * other.of(t));
            }
            return left;
        }

        Sum product() throws Wrong {
            Sum left = value();
            while (sees("*", "/")) {
                boolean times = skip("*", "/").equals("*");
                Sum one = left;
                Sum other = value();
                left = t -> {
                    long a = one.of(t);
                    long b = other.of(t);
                    return (int) (times ? a * b : b == 0 ? 0 : a / b);
                };
            }
            return left;
        }

        Sum value() throws Wrong {
            if (isNumber(now())) {
                int number = number();
                return t -> number;
            }
            if (sees("-")) {
                deeper("-");
                Sum inner = value();
                depth--;
                return t -> (int) -(long) inner.of(t);
            }
            if (sees("(")) {
                deeper("(");
                Sum inner = sum();
                skip(")");
                depth--;
                return inner;
            }
            switch (skip("round", "coins", "buys", "hand", "trashed", "played", "owned", "left", "min", "max")) {
                case "round":
                    return t -> t.state.round;
                case "coins":
                    return t -> t.coins;
                case "buys":
                    return t -> t.buys;
                case "hand":
                    return t -> t.hand.size();
                case "trashed":
                    return t -> t.me.trashed;
                case "played":
                    String played = name();
                    return t -> t.timesPlayed(t.state.number(played));
                case "owned":
                    String owned = name();
                    return t -> t.owned(t.state.number(owned));
                case "left":
                    String left = name();
                    return t -> t.state.pile[t.state.number(left)];
                default:
                    boolean min = tokens.get(at - 1).text.equals("min");
                    deeper("(");
                    Sum one = sum();
                    skip(",");
                    Sum other = sum();
                    skip(")");
                    depth--;
                    return t -> min ? Math.min(one.of(t), other.of(t)) : Math.max(one.of(t), other.of(t));
            }
        }
    }

    // ---- errors 2 to 5: token by token

    private static void checkMeaning(List<Token> tokens, List<Token> deedStarts) throws Wrong {
        List<String> cards = new ArrayList<>();
        List<String> merchants = new ArrayList<>();
        int starts = 0;
        int orders = 0;
        int deeds = 0;
        String before = ";";
        for (Token token : tokens) {
            String text = token.text;
            int error = 0;
            if (before.equals(";")) {
                deeds = 0;
                orders += text.equals("buy") ? 1 : 0;
                error = text.equals("buy") && orders > 16 ? 4 : 0;
            } else if (deedStarts.contains(token)) {
                deeds++;
                error = deeds > 4 ? 4 : 0;
            } else if (isName(text)) {
                boolean known = (before.equals("merchant") || before.equals("for") ? merchants : cards).contains(text);
                if (before.equals("card") || before.equals("merchant")) {
                    List<String> sort = before.equals("card") ? cards : merchants;
                    sort.add(text);
                    error = known ? 2 : sort.size() > (before.equals("card") ? 10 : 4) ? 4 : 0;
                } else {
                    error = known ? 0 : 3;
                }
            } else if (isNumber(text)) {
                int number = Integer.parseInt(text);
                starts += before.equals("start") ? number : 0;
                if (before.equals("start")) {
                    error = starts > 20 ? 4 : number < 1 ? 5 : 0;
                } else if (before.equals("cost") || before.equals("worth")) {
                    error = number > 99 ? 5 : 0;
                } else if (before.equals("pile")) {
                    error = number > 30 ? 5 : 0;
                }
            }
            if (error != 0) {
                throw new Wrong(error, token.place);
            }
            before = text;
        }
    }

    // ---- the market

    private static final class Merchant {
        List<Integer> deck = new ArrayList<>();
        List<Integer> discards = new ArrayList<>();
        int seed;
        int trashed;
        int bought;
        int coins;
        int shuffles;

        Merchant copy() {
            Merchant c = new Merchant();
            c.deck.addAll(deck);
            c.discards.addAll(discards);
            c.seed = seed;
            c.trashed = trashed;
            c.bought = bought;
            c.coins = coins;
            c.shuffles = shuffles;
            return c;
        }

        List<Integer> all() {
            List<Integer> all = new ArrayList<>(deck);
            all.addAll(discards);
            return all;
        }

        int worth(Told told) {
            return all().stream().mapToInt(told.worth::get).sum();
        }

        int many(int card) {
            return (int) all().stream().filter(c -> c == card).count();
        }

        void shuffle() {
            if (discards.isEmpty()) {
                return;
            }
            int place = discards.size();
            while (--place >= 1) {
                seed = (seed * 193 + 71) % 1021;
                int other = seed % (place + 1);
                Integer kept = discards.get(place);
                discards.set(place, discards.get(other));
                discards.set(other, kept);
            }
            deck.addAll(discards);
            discards.clear();
            shuffles++;
        }
    }

    private static final class State {
        Told told = new Told();
        int round;
        int[] pile = new int[0];
        int[] played = new int[0];
        int[] bought = new int[0];
        List<Merchant> merchants = new ArrayList<>();

        int number(String card) {
            return told.cards.indexOf(card);
        }

        State copy() {
            State c = new State();
            c.told = told;
            c.round = round;
            c.pile = pile.clone();
            c.played = played.clone();
            c.bought = bought.clone();
            for (Merchant m : merchants) {
                c.merchants.add(m.copy());
            }
            return c;
        }

        int rounds(int many, Order without) {
            int all = 0;
            for (int i = 0; i < many; i++) {
                for (int m = 0; m < merchants.size(); m++) {
                    all += new Turn(this, m).take(without).bought;
                }
                round++;
            }
            return all;
        }

        int leader() {
            int best = -1;
            for (int m = 0; m < merchants.size(); m++) {
                if (best < 0 || ahead(m, best)) {
                    best = m;
                }
            }
            return best;
        }

        boolean ahead(int m, int other) {
            int more = merchants.get(m).worth(told) - merchants.get(other).worth(told);
            return more > 0 || more == 0 && merchants.get(m).all().size() < merchants.get(other).all().size();
        }
    }

    private static final class Turn {
        final State state;
        final Merchant me;
        final String name;
        int coins = 0;
        int buys = 1;
        final List<Integer> hand = new ArrayList<>();
        int cards = 0;
        int coinsThen;
        int buysThen;
        int trashed;
        int bought;

        Turn(State state, int merchant) {
            this.state = state;
            me = state.merchants.get(merchant);
            name = state.told.merchants.get(merchant);
        }

        int timesPlayed(int card) {
            return (int) hand.subList(0, cards).stream().filter(c -> c == card).count();
        }

        int owned(int card) {
            return me.many(card) + (int) hand.stream().filter(c -> c == card).count();
        }

        void draw(int many) {
            for (int i = 0; i < many; i++) {
                if (me.deck.isEmpty()) {
                    me.shuffle();
                }
                if (!me.deck.isEmpty()) {
                    hand.add(me.deck.remove(0));
                }
            }
        }

        static int held(long number, int most) {
            return (int) Math.max(0, Math.min(most, number));
        }

        Turn take(Order without) {
            draw(5);
            while (cards < 30 && cards < hand.size()) {
                int card = hand.get(cards++);
                state.played[card]++;
                for (Deed deed : state.told.deeds.get(card)) {
                    doIt(deed, card);
                }
            }
            coinsThen = coins;
            buysThen = buys;
            me.coins = coins;
            for (Order order : state.told.orders) {
                if (order != without && order.merchant.equals(name)) {
                    follow(order);
                }
            }
            me.discards.addAll(hand);
            return this;
        }

        void doIt(Deed deed, int card) {
            switch (deed.kind) {
                case "coins":
                    coins = held((long) coins + deed.sum.of(this), 999);
                    break;
                case "draws":
                    draw(held(deed.sum.of(this), 9));
                    break;
                case "buys":
                    buys = held((long) buys + deed.sum.of(this), 9);
                    break;
                case "trash":
                    int place = hand.subList(cards, hand.size()).indexOf(state.number(deed.card));
                    if (place >= 0) {
                        hand.remove(cards + place);
                        me.trashed++;
                        trashed++;
                    }
                    break;
                default:
                    if (hand.subList(0, cards - 1).contains(state.number(deed.card))) {
                        coins = held((long) coins + deed.sum.of(this), 999);
                    }
                    break;
            }
        }

        void follow(Order order) {
            int card = state.number(order.card);
            int cost = state.told.cost.get(card);
            boolean holds = order.test == null || order.test.of(this);
            if (buys >= 1 && holds && state.pile[card] >= 1 && coins >= cost && me.all().size() + hand.size() < 60) {
                state.pile[card]--;
                coins -= cost;
                buys--;
                me.discards.add(card);
                me.bought++;
                state.bought[card]++;
                bought++;
            }
        }
    }

    // ---- the calls

    private String tape = "";
    private State now = new State();
    private int errorPlace = -1;

    int feed(int... numbers) {
        if (tape.length() + 20 > 2000) {
            throw new IllegalStateException();
        }
        StringBuilder fed = new StringBuilder(tape);
        for (int number : numbers) {
            for (int b = 3; b >= 0; b--) {
                fed.append((char) (number >>> 8 * b & 255));
            }
        }
        tape = fed.toString();
        return tape.length();
    }

    int trim(int n) {
        if (n < 0 || n > tape.length()) {
            throw new IllegalArgumentException();
        }
        tape = tape.substring(0, n);
        return n;
    }

    int teach() {
        String read = tape;
        tape = "";
        Parser parser = new Parser(tokens(read));
        try {
            parser.list();
            checkMeaning(parser.tokens, parser.deedStarts);
        } catch (Wrong wrong) {
            errorPlace = wrong.place;
            return wrong.error;
        }
        errorPlace = -1;
        Told told = parser.told;
        now = new State();
        now.told = told;
        now.pile = new int[told.cards.size()];
        told.pile.forEach((card, high) -> now.pile[card] = high);
        now.played = new int[told.cards.size()];
        now.bought = new int[told.cards.size()];
        for (int m = 0; m < told.merchants.size(); m++) {
            Merchant merchant = new Merchant();
            merchant.seed = new int[] {1, 8, 15, 22}[m];
            merchant.discards.addAll(told.start);
            now.merchants.add(merchant);
        }
        return 0;
    }

    int errorAt() {
        return errorPlace;
    }

    private static void bound(int number, int least, int most) {
        if (number < least || number > most) {
            throw new IndexOutOfBoundsException();
        }
    }

    private static void argument(int number, int most) {
        if (number < 1 || number > most) {
            throw new IllegalArgumentException();
        }
    }

    private void boundCard(int card) {
        bound(card, 0, now.told.cards.size() - 1);
    }

    private Merchant mer(int merchant) {
        bound(merchant, 0, now.merchants.size() - 1);
        return now.merchants.get(merchant);
    }

    private int countOf(State state, int what) {
        switch (what) {
            case 0:
                return state.round;
            case 1:
                return state.told.cards.size();
            case 2:
                return state.merchants.size();
            case 3:
                return state.told.orders.size();
            case 4:
                return Arrays.stream(state.pile).sum();
            case 5:
                return state.merchants.stream().mapToInt(m -> m.all().size()).sum();
            case 6:
                return state.merchants.stream().mapToInt(m -> m.trashed).sum();
            case 7:
                return Arrays.stream(state.bought).sum();
            default:
                return tape.length();
        }
    }

    int count(int what) {
        bound(what, 0, 8);
        return countOf(now, what);
    }

    int card(int card, int what) {
        boundCard(card);
        bound(what, 0, 6);
        int owned = now.merchants.stream().mapToInt(m -> m.many(card)).sum();
        return new int[] {now.told.cost.get(card), now.told.worth.get(card), now.told.deeds.get(card).size(),
            now.pile[card], owned, now.played[card], now.bought[card]}[what];
    }

    int merchant(int merchant, int what) {
        Merchant m = mer(merchant);
        bound(what, 0, 7);
        return new int[] {m.deck.size(), m.discards.size(), m.seed, m.worth(now.told), m.trashed, m.bought, m.coins,
            m.shuffles}[what];
    }

    int owns(int merchant, int card) {
        Merchant m = mer(merchant);
        boundCard(card);
        return m.many(card);
    }

    int deck(int merchant, int place) {
        Merchant m = mer(merchant);
        bound(place, 0, m.deck.size() - 1);
        return m.deck.get(place);
    }

    int discard(int merchant, int place) {
        Merchant m = mer(merchant);
        bound(place, 0, m.discards.size() - 1);
        return m.discards.get(place);
    }

    int leader() {
        return now.leader();
    }

    int give(int merchant, int card) {
        Merchant m = mer(merchant);
        boundCard(card);
        if (now.pile[card] == 0 || m.all().size() >= 60) {
            throw new IllegalStateException();
        }
        m.discards.add(card);
        return --now.pile[card];
    }

    int trash(int merchant, int card) {
        Merchant m = mer(merchant);
        boundCard(card);
        int place = m.discards.indexOf(card);
        if (place < 0) {
            throw new IllegalStateException();
        }
        m.discards.remove(place);
        m.trashed++;
        return place;
    }

    int shuffle(int merchant) {
        Merchant m = mer(merchant);
        m.shuffle();
        return m.deck.size();
    }

    int play(int rounds) {
        argument(rounds, 40);
        return now.rounds(rounds, null);
    }

    int next(int merchant, int what) {
        mer(merchant);
        bound(what, 0, 4);
        Turn turn = new Turn(now.copy(), merchant).take(null);
        return new int[] {turn.coinsThen, turn.buysThen, turn.cards, turn.trashed, turn.bought}[what];
    }

    int foresee(int rounds, int what) {
        argument(rounds, 40);
        if (what != 0) {
            bound(what, 4, 7);
        }
        State then = now.copy();
        then.rounds(rounds, null);
        return what == 0 ? then.leader() : countOf(then, what);
    }

    int missed(int merchant, int rounds) {
        mer(merchant);
        argument(rounds, 20);
        int best = -1;
        int least = Integer.MAX_VALUE;
        for (Order order : now.told.orders) {
            State then = now.copy();
            then.rounds(rounds, order);
            int worth = then.merchants.get(merchant).worth(now.told);
            if (order.merchant.equals(now.told.merchants.get(merchant)) && worth < least) {
                best = now.told.orders.indexOf(order);
                least = worth;
            }
        }
        return best;
    }

    int advise(int merchant, int rounds) {
        mer(merchant);
        argument(rounds, 20);
        int best = -1;
        int most = -1;
        for (int card = 0; card < now.told.cards.size(); card++) {
            State then = now.copy();
            Merchant m = then.merchants.get(merchant);
            if (then.pile[card] > 0 && m.all().size() < 60) {
                then.pile[card]--;
                m.discards.add(card);
                then.rounds(rounds, null);
                if (m.worth(now.told) > most) {
                    best = card;
                    most = m.worth(now.told);
                }
            }
        }
        return best;
    }

    double mean() {
        return now.merchants.stream().mapToInt(m -> m.worth(now.told)).average().orElse(0);
    }

    long digest() {
        List<Integer> numbers = new ArrayList<>();
        for (int what = 0; what < 9; what++) {
            numbers.add(count(what));
        }
        for (int card = 0; card < now.told.cards.size(); card++) {
            for (int what = 0; what < 7; what++) {
                numbers.add(card(card, what));
            }
        }
        for (int m = 0; m < now.merchants.size(); m++) {
            for (int what = 0; what < 8; what++) {
                numbers.add(merchant(m, what));
            }
            numbers.addAll(now.merchants.get(m).all());
        }
        long d = 859;
        for (int number : numbers) {
            d = d * 31 + number;
        }
        return d;
    }
}
