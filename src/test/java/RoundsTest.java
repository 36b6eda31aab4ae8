/** Promises 16 and 17: rounds and turns, with the sums and tests of the language. */
public final class RoundsTest {
    private static final Check CHECK = new Check("RoundsTest");
    private static final String LEAST = "-2147 * 999999 - 485794 - 1";

    public static void main(String[] args) {
        coins();
        draws();
        mostPlayed();
        buys();
        trash();
        combo();
        deedsInOrder();
        values();
        valuesInOrders();
        arithmetic();
        tests();
        orders();
        ordersUseThePilesInTurn();
        puttingAway();
        shufflingInATurn();
        play();
        next();
        CHECK.end();
    }

    /** A market with one merchant, who begins with so many cards of this kind, and a pile of 30 of it. */
    private static TarotMerchants one(int many, String deeds) {
        return Check.taught("card a cost 1 worth 1 " + deeds + "; start " + many + " of a; pile 30 of a; merchant m;");
    }

    private static void dueTurn(String what, TarotMerchants x, int... want) {
        for (int i = 0; i < want.length; i++) {
            CHECK.due(what + ": next(0, " + i + ")", x.next(0, i), want[i]);
        }
    }

    private static void dueCoins(String deeds, int want) {
        TarotMerchants x = one(5, deeds);
        CHECK.due("coins of five cards with " + deeds, x.next(0, 0), want);
        x.play(1);
        CHECK.due("coins of the latest turn with " + deeds, x.merchant(0, 6), want);
    }

    private static void coins() {
        dueCoins("", 0);
        dueCoins("coins 3", 15);
        dueCoins("coins 999999", 999);
        dueCoins("coins 199 coins 0", 995);
        dueCoins("coins 200", 999);
        dueCoins("coins -5", 0);
        dueCoins("coins -5 coins 3", 3);
        dueCoins("coins 2000 coins -100", 899);
        // 5 and 2147483647 more are not less than 0
        dueCoins("coins 5 coins 2147 * 999999 + 485794", 999);
        dueCoins("coins 5 coins " + LEAST, 0);
        // the sum itself wraps around: 999999 * 9999 is 1409055409, 999999 * 999999 is -729379967
        dueCoins("coins 999999 * 9999", 999);
        dueCoins("coins 5 coins 999999 * 999999", 0);
    }

    private static void draws() {
        dueTurn("draws 1", one(7, "draws 1"), 0, 1, 7, 0, 0);
        dueTurn("draws -3", one(20, "draws -3"), 0, 1, 5, 0, 0);
        dueTurn("draws 2 once", one(20, "draws 2 * (1 / played a)"), 0, 1, 7, 0, 0);
        dueTurn("draws 9 once", one(20, "draws 9 * (1 / played a)"), 0, 1, 14, 0, 0);
        dueTurn("draws 10 once", one(20, "draws 10 * (1 / played a)"), 0, 1, 14, 0, 0);
        dueTurn("draws of what is not there", one(3, "draws 9"), 0, 1, 3, 0, 0);
        dueTurn("without any card", Check.taught("merchant m;"), 0, 1, 0, 0, 0);
    }

    private static void mostPlayed() {
        TarotMerchants x = one(20, "draws 9 coins 1");
        for (int i = 0; i < 20; i++) {
            x.give(0, 0);
        }
        dueTurn("40 cards", x, 30, 1, 30, 0, 0);
        x.play(1);
        CHECK.due("played in all", x.card(0, 5), 30);
        CHECK.due("all are put away", x.merchant(0, 1), 40);
        // those that stay in the hand can't be trashed then, and are counted in the hand
        TarotMerchants y = one(20, "draws 9 coins hand");
        for (int i = 0; i < 11; i++) {
            y.give(0, 0);
        }
        // 14 behind the first draw, 23, then 31: 14 + 23 + 28 * 31 = 905
        dueTurn("31 cards", y, 905, 1, 30, 0, 0);
    }

    private static void buys() {
        dueTurn("buys 1", one(5, "buys 1"), 0, 6, 5);
        dueTurn("buys 99", one(5, "buys 99"), 0, 9, 5);
        dueTurn("buys -1", one(5, "buys -1"), 0, 0, 5);
        dueTurn("buys -5 buys 2", one(5, "buys -5 buys 2"), 0, 2, 5);
        dueTurn("buys 9 of 9 and one less", one(5, "buys 9 buys -1"), 0, 8, 5);
        dueTurn("buys far too many", one(5, "buys 2147 * 999999 + 485794"), 0, 9, 5);
    }

    private static void trash() {
        TarotMerchants x = one(5, "trash a");
        dueTurn("each trashes the next", x, 0, 1, 3, 2, 0);
        CHECK.due("nothing is changed", x.count(5) + x.count(6), 5);
        x.play(1);
        CHECK.due("owned", x.owns(0, 0), 3);
        CHECK.due("trashed", x.merchant(0, 4), 2);
        CHECK.due("the pile stays", x.card(0, 3), 30);
        // the cards that are told by start as a, b, c, d, e come as a, b, d, c, e: b trashes the d behind it, e no a
        TarotMerchants y = Check.taught("card d cost 1 worth 1; card a cost 1 worth 1; card b cost 1 worth 1 trash d; card c cost 1 worth 1;"
            + "card e cost 1 worth 1 trash a; start 1 of a; start 1 of b; start 1 of c; start 1 of d; start 1 of e; merchant m;");
        dueTurn("b trashes d, e nothing", y, 0, 1, 4, 1, 0);
        y.play(1);
        for (int place = 0; place < 4; place++) {
            CHECK.due("discard " + place, y.discard(0, place), place + 1);
        }
        CHECK.due("d is played by nobody", y.card(0, 5), 0);
    }

    private static void combo() {
        dueCoins("combo a 2", 8);
        dueCoins("combo a 0 - 1", 0);
        dueCoins("coins 10 combo a - 3", 38);
        // they come as a, b, d, c, e
        String list = "card a cost 1 worth 1; card b cost 1 worth 1; card c cost 1 worth 1 %; card d cost 1 worth 1; card e cost 1 worth 1;"
            + "start 1 of a; start 1 of b; start 1 of c; start 1 of d; start 1 of e; merchant m;";
        CHECK.due("combo of what was played ahead", Check.taught(list.replace("%", "combo b 4")).next(0, 0), 4);
        CHECK.due("combo of itself, played once", Check.taught(list.replace("%", "combo c 4")).next(0, 0), 0);
        String other = "card e cost 1 worth 1; card d cost 1 worth 1 combo e 7; card c cost 1 worth 1; start 2 of d; start 2 of e; start 1 of c;"
            + "merchant m;";
        // they come as d, d, e, e, c
        CHECK.due("combo of what is played behind", Check.taught(other).next(0, 0), 0);
    }

    private static void deedsInOrder() {
        dueCoins("coins 1 coins coins", 62);
        dueCoins("coins coins coins 1", 31);
        dueCoins("trash a coins hand", 4 + 3 + 3);
        dueCoins("coins hand trash a", 5 + 4 + 3);
        dueCoins("buys 1 coins buys", 2 + 3 + 4 + 5 + 6);
    }

    private static void values() {
        dueCoins("coins hand", 25);
        dueCoins("coins played a", 1 + 2 + 3 + 4 + 5);
        dueCoins("coins owned a", 25);
        dueCoins("trash a coins owned a", 4 + 3 + 3);
        dueCoins("trash a coins trashed", 1 + 2 + 2);
        dueCoins("coins left a", 150);
        dueCoins("coins coins + 1", 31);
        dueCoins("coins buys", 5);
        dueCoins("coins round", 0);
        TarotMerchants x = one(5, "coins round");
        x.play(3);
        CHECK.due("coins in round 2", x.merchant(0, 6), 10);
        CHECK.due("coins in round 3", x.next(0, 0), 15);
        TarotMerchants y = one(5, "coins owned a");
        y.shuffle(0);
        y.give(0, 0);
        CHECK.due("owned in deck, discards and hand", y.next(0, 0), 30);
        TarotMerchants z = one(5, "coins trashed");
        z.trash(0, 0);
        CHECK.due("trashed by hand is trashed", z.next(0, 0), 4);
    }

    private static void valuesInOrders() {
        String list = "card a cost 1 worth 1 coins 1 buys 1; card b cost 2 worth 1; start 5 of a; pile 9 of a; pile 9 of b; merchant m;";
        CHECK.due("hand, played, left", Check.taught(list + "buy a for m when hand = 5 and played a = 5 and left a = 9;").play(1), 1);
        CHECK.due("coins and buys now", Check.taught(list + "buy a for m when coins = 5 and buys = 6;"
            + "buy b for m when coins = 4 and buys = 5 and left a = 8 and owned a = 6;"
            + "buy a for m when coins = 2 and buys = 4 and owned b = 1 and left b = 8;").play(1), 3);
        CHECK.due("what does not hold now", Check.taught(list + "buy a for m; buy a for m when coins = 5;").play(1), 1);
    }

    private static void arithmetic() {
        String[] equal = {"1 + 2 * 3 = 7", "10 - 4 - 3 = 3", "100 / 10 / 5 = 2", "2 * 3 / 4 = 1", "2 / 4 * 3 = 0", "(1 + 2) * 3 = 9",
            "-1 - 1 = -2", "-2 * 3 = -6", "2 * -3 = -6", "2 - -3 = 5", "--3 = 3", "-(3 - 5) = 2", "min(1, 2) = 1", "max(1, 2) = 2",
            "min(2, 1) = 1", "max(2, 1) = 2", "min(-1, -2) = -2", "max(-1, -2) = -1", "max(min(5, 4), 3) = 4", "7 / 2 = 3",
            "-7 / 2 = -3", "7 / -2 = -3", "-7 / -2 = 3", "1 / 0 = 0", "-1 / 0 = 0", "0 / 0 = 0", "000007 = 7",
            "999999 * 999999 = -729379 * 1000 - 967", "2147 * 999999 + 485794 + 1 = " + LEAST,
            LEAST + " < 0", "(" + LEAST + ") / -1 = " + LEAST, "-(" + LEAST + ") = " + LEAST, LEAST + " - 1 > 0",
            "(" + LEAST + ") * -1 = " + LEAST, "min(" + LEAST + ", 0) < 0", "max(" + LEAST + ", 0) = 0"};
        for (String test : equal) {
            CHECK.dueHolds(test, true);
            CHECK.dueHolds("not " + test, false);
        }
    }

    private static void tests() {
        for (int left = -1; left <= 1; left++) {
            CHECK.dueHolds(left + " < 0", left < 0);
            CHECK.dueHolds(left + " > 0", left > 0);
            CHECK.dueHolds(left + " = 0", left == 0);
            CHECK.dueHolds(left + " <= 0", left <= 0);
            CHECK.dueHolds(left + " >= 0", left >= 0);
        }
        CHECK.dueHolds("999999 * 2147 > -999999 * 2147", true);
        CHECK.dueHolds("1 = 1 or 1 = 2 and 1 = 2", true);
        CHECK.dueHolds("1 = 2 and 1 = 2 or 1 = 1", true);
        CHECK.dueHolds("[1 = 1 or 1 = 2] and 1 = 2", false);
        CHECK.dueHolds("not 1 = 2 and 1 = 2", false);
        CHECK.dueHolds("not [1 = 2 and 1 = 2]", true);
        CHECK.dueHolds("not 1 = 1 or 1 = 1", true);
        CHECK.dueHolds("not not 1 = 1", true);
        CHECK.dueHolds("1 = 1 and 1 = 1 and 1 = 2", false);
        CHECK.dueHolds("1 = 2 or 1 = 2 or 1 = 1", true);
        CHECK.dueHolds("1 = 2 or 1 = 2", false);
        CHECK.dueHolds("1 = 1 and 1 = 1", true);
        CHECK.dueHolds("1 = 1 or 1 = 1", true);
    }

    private static void orders() {
        String list = "card a cost 1 worth 1 coins 1; card b cost 5 worth 5; card c cost 6 worth 6; start 5 of a; pile 9 of a; pile 9 of b;"
            + "pile 9 of c; card d cost 0 worth 0; merchant m; ";
        CHECK.due("as many coins as it costs", Check.taught(list + "buy b for m;").play(1), 1);
        CHECK.due("fewer coins", Check.taught(list + "buy c for m;").play(1), 0);
        CHECK.due("an empty pile", Check.taught(list + "buy d for m;").play(1), 0);
        TarotMerchants x = Check.taught(list + "buy d for m; buy c for m; buy a for m; buy b for m;");
        CHECK.due("one buy", x.play(1), 1);
        CHECK.due("the first that goes", x.card(0, 6), 1);
        CHECK.due("bought by m", x.merchant(0, 5), 1);
        CHECK.due("coins behind step 2 stay told", x.merchant(0, 6), 5);
        CHECK.due("each once", Check.taught(list.replace("coins 1", "coins 1 buys 1") + "buy a for m;").play(1), 1);
        CHECK.due("so many of the same", Check.taught(list.replace("coins 1", "coins 1 buys 1") + Check.repeat("buy a for m;", 7)).play(1), 5);
        CHECK.due("without a buy", Check.taught(list.replace("coins 1", "coins 1 buys -1") + "buy a for m;").play(1), 0);
        // none is bought without a buy, though it costs nothing
        CHECK.due("for nothing", Check.taught("card a cost 0 worth 1; pile 9 of a; merchant m; buy a for m; buy a for m;").play(1), 1);
    }

    private static void ordersUseThePilesInTurn() {
        TarotMerchants x = Check.taught("card a cost 0 worth 1; pile 2 of a; merchant m; merchant n; merchant o; buy a for o; buy a for n;"
            + "buy a for m;");
        CHECK.due("bought", x.play(1), 2);
        CHECK.due("m", x.owns(0, 0), 1);
        CHECK.due("n", x.owns(1, 0), 1);
        CHECK.due("o", x.owns(2, 0), 0);
    }

    private static void puttingAway() {
        TarotMerchants x = Check.taught("card a cost 0 worth 0 coins 1; card b cost 2 worth 1; start 5 of a; pile 9 of b; pile 9 of a; merchant m;"
            + "buy b for m;");
        x.play(1);
        CHECK.due("what is bought lies ahead of the hand", x.discard(0, 0), 1);
        for (int place = 1; place < 6; place++) {
            CHECK.due("discard " + place, x.discard(0, place), 0);
        }
        CHECK.dueOutOfBounds("discard 6", () -> x.discard(0, 6));
    }

    private static void shufflingInATurn() {
        // the deck has 2 cards as the turn begins: the third draw shuffles, and the hand stays out of it
        TarotMerchants x = Check.taught("card a cost 1 worth 1; card b cost 1 worth 1; start 2 of a; pile 9 of b; merchant m;");
        x.shuffle(0);
        CHECK.due("seed", x.merchant(0, 2), 264);
        for (int i = 0; i < 4; i++) {
            x.give(0, 1);
        }
        x.play(1);
        CHECK.due("shuffles", x.merchant(0, 7), 2);
        // four cards: 994, 986, 463 of 264
        CHECK.due("seed", x.merchant(0, 2), 463);
        CHECK.due("deck", x.merchant(0, 0), 1);
        CHECK.due("on top", x.deck(0, 0), 1);
        CHECK.due("discard 0", x.discard(0, 0), 0);
        CHECK.due("discard 2", x.discard(0, 2), 1);
        // one card is left in the deck, five are shuffled behind it
        x.play(1);
        CHECK.due("shuffles", x.merchant(0, 7), 3);
        CHECK.due("deck", x.merchant(0, 0), 1);
    }

    private static void play() {
        TarotMerchants x = Check.taught("card a cost 1 worth 1 coins 1; start 5 of a; pile 30 of a; merchant m; merchant n; buy a for m;");
        CHECK.dueIllegalArgument("play(0)", () -> x.play(0));
        CHECK.dueIllegalArgument("play(-1)", () -> x.play(-1));
        CHECK.dueIllegalArgument("play(41)", () -> x.play(41));
        CHECK.due("rounds", x.count(0), 0);
        CHECK.due("play(1)", x.play(1), 1);
        CHECK.due("rounds", x.count(0), 1);
        CHECK.due("play(40)", x.play(40), 29);
        CHECK.due("rounds", x.count(0), 41);
        CHECK.due("bought in all", x.count(7), 30);
        CHECK.due("bought by n", x.merchant(1, 5), 0);
        TarotMerchants empty = new TarotMerchants();
        CHECK.due("play without merchants", empty.play(3), 0);
        CHECK.due("rounds", empty.count(0), 3);
        // 3 rounds and 4 are 7
        TarotMerchants y = Check.taught("card a cost 1 worth 1 coins round + 1 draws 1; start 7 of a; pile 30 of a; merchant m; buy a for m;");
        TarotMerchants z = Check.taught("card a cost 1 worth 1 coins round + 1 draws 1; start 7 of a; pile 30 of a; merchant m; buy a for m;");
        y.play(7);
        z.play(3);
        z.play(4);
        CHECK.due("in parts", z.digest(), y.digest());
    }

    private static void next() {
        TarotMerchants x = Check.taught("card a cost 1 worth 1 coins 1 buys 1 trash a; start 5 of a; pile 9 of a; merchant m; merchant n;"
            + "buy a for n; buy a for n; buy a for n; buy a for n;");
        long before = x.digest();
        int[] want = {3, 4, 3, 2, 3};
        for (int what = 0; what < 5; what++) {
            CHECK.due("next(1, " + what + ")", x.next(1, what), want[what]);
        }
        CHECK.due("nothing is bought by m", x.next(0, 4), 0);
        CHECK.dueOutOfBounds("next(2, 0)", () -> x.next(2, 0));
        CHECK.dueOutOfBounds("next(-1, 0)", () -> x.next(-1, 0));
        CHECK.dueOutOfBounds("next(0, 5)", () -> x.next(0, 5));
        CHECK.dueOutOfBounds("next(0, -1)", () -> x.next(0, -1));
        CHECK.due("nothing is changed", x.digest(), before);
        CHECK.due("the turn comes so", x.play(1), 3);
        CHECK.due("coins behind step 2", x.merchant(1, 6), 3);
    }
}
