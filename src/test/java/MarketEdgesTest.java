/** The boundary cases that the document names in "2. The market", a method for each sentence. */
public final class MarketEdgesTest {
    private static final Check CHECK = new Check("MarketEdgesTest");
    // the numbers of the cards that list() tells
    private static final int B = 0;
    private static final int C = 1;
    private static final int A = 2;
    private static final String MOST = "(2147 * 999999 + 485794)";
    private static final String LEAST = "(-2147 * 999999 - 485795)";

    public static void main(String[] args) {
        pileWithoutALine();
        latestLineOfPile();
        beginning();
        beginningWithoutStart();
        shufflingWithoutDiscards();
        shufflingOneCard();
        shufflingTwoCards();
        shufflingSixtyCards();
        seedGoesOnFromTurnToTurn();
        drawingFromAnEmptyDeck();
        drawingWithoutAnyCard();
        fiveCardsAreDrawn();
        coinsAndBuysBeginAnew();
        thirtyCardsArePlayed();
        whatIsNotPlayedStaysInTheHand();
        drawsAreHeld();
        coinsAreHeld();
        coinsOfCombosAreHeld();
        buysAreHeld();
        trashOfTheFirstNotYetPlayed();
        trashWithoutSuchACard();
        comboOfACardAhead();
        comboOfItself();
        comboOfThisTurnAlone();
        fourDeedsAreNoMore();
        orderWithoutABuy();
        orderOfWhatItCosts();
        orderOfAnEmptyPile();
        orderOfThe60thCard();
        orderOfTheTestNow();
        orderOnce();
        handIsPutAwayBehindWhatIsBought();
        valuesAtTheirEdges();
        roundIsTheSameForAll();
        bindingOfTests();
        CHECK.end();
    }

    /** A shuffling of one card by hand moves nothing and leaves the seed: so a deck can be laid card by card. */
    private static TarotMerchants laid(String list, int... deck) {
        TarotMerchants x = Check.taught(list);
        for (int card : deck) {
            x.give(0, card);
            x.shuffle(0);
        }
        return x;
    }

    private static int[] repeated(int card, int many) {
        int[] row = new int[many];
        java.util.Arrays.fill(row, card);
        return row;
    }

    /** Three cards of which only a has deeds, which can name all of them, and a merchant. */
    private static String list(String deeds) {
        return "card b cost 2 worth 1; card c cost 3 worth 1; card a cost 1 worth 1 " + deeds + "; pile 30 of a; pile 30 of b; pile 30 of c;"
            + "merchant m;";
    }

    private static void dueTurn(String what, TarotMerchants x, int... want) {
        for (int i = 0; i < want.length; i++) {
            CHECK.due(what + ": next(0, " + i + ")", x.next(0, i), want[i]);
        }
    }

    private static int seedBehind(int seed, int steps) {
        int s = seed;
        for (int i = 0; i < steps; i++) {
            s = (s * 193 + 71) % 1021;
        }
        return s;
    }

    private static int[] shuffled(int[] cards, int seed) {
        int[] row = cards.clone();
        for (int place = row.length - 1; place >= 1; place--) {
            int other = seedBehind(seed, row.length - place) % (place + 1);
            int kept = row[place];
            row[place] = row[other];
            row[other] = kept;
        }
        return row;
    }

    // ---- piles and the beginning

    private static void pileWithoutALine() {
        TarotMerchants x = Check.taught("card a cost 0 worth 1 coins left a + 1; card b cost 0 worth 1; start 1 of a; pile 1 of b; merchant m;"
            + "buy a for m;");
        CHECK.due("pile", x.card(0, 3), 0);
        CHECK.due("all piles", x.count(4), 1);
        CHECK.due("left is 0", x.next(0, 0), 1);
        CHECK.due("none is bought", x.next(0, 4), 0);
        CHECK.dueRefused("none is given", x, () -> x.give(0, 0), IllegalStateException.class);
    }

    private static void latestLineOfPile() {
        TarotMerchants x = Check.taught("card a cost 0 worth 1; card b cost 0 worth 1; pile 30 of a; pile 3 of b; pile 0 of a; pile 30 of b;"
            + "pile 7 of b;");
        CHECK.due("pile of a", x.card(0, 3), 0);
        CHECK.due("pile of b", x.card(1, 3), 7);
        // lines behind an order leave it
        TarotMerchants y = Check.taught("card a cost 0 worth 1; card b cost 0 worth 1; pile 9 of b; merchant m; buy b for m; pile 8 of a; start 1 of a;"
            + "merchant n;");
        CHECK.due("bought", y.play(1), 1);
        CHECK.due("b for m", y.owns(0, 1), 1);
    }

    private static void beginning() {
        TarotMerchants x = Check.taught("merchant m; merchant n; card a cost 0 worth 1; start 1 of a; merchant o; card b cost 0 worth 1; start 18 of b;"
            + "start 1 of a; merchant p;");
        int[] seeds = {1, 8, 15, 22};
        for (int merchant = 0; merchant < 4; merchant++) {
            CHECK.due("deck", x.merchant(merchant, 0), 0);
            CHECK.due("seed", x.merchant(merchant, 2), seeds[merchant]);
            int[] discards = repeated(1, 20);
            discards[0] = 0;
            discards[19] = 0;
            CHECK.dueRow("discards", Check.discards(x, merchant), discards);
            for (int what = 4; what <= 7; what++) {
                CHECK.due("merchant(" + merchant + ", " + what + ")", x.merchant(merchant, what), 0);
            }
        }
        CHECK.due("rounds", x.count(0), 0);
        CHECK.due("trashed", x.count(6), 0);
    }

    private static void beginningWithoutStart() {
        TarotMerchants x = Check.taught(list("") + "buy a for m;");
        CHECK.due("discards", x.merchant(0, 1), 0);
        CHECK.due("owned", x.count(5), 0);
        dueTurn("without cards", x, 0, 1, 0, 0, 0);
        CHECK.dueOutOfBounds("deck(0, 0)", () -> x.deck(0, 0));
        CHECK.dueOutOfBounds("discard(0, 0)", () -> x.discard(0, 0));
    }

    // ---- shuffling and drawing

    private static void shufflingWithoutDiscards() {
        TarotMerchants x = Check.taught(list(""));
        long before = x.digest();
        CHECK.due("shuffle without cards", x.shuffle(0), 0);
        CHECK.due("nothing is changed", x.digest(), before);
        TarotMerchants y = laid(list(""), A, B, C);
        long laid = y.digest();
        CHECK.due("shuffle of a deck alone", y.shuffle(0), 3);
        CHECK.due("nothing is changed", y.digest(), laid);
    }

    private static void shufflingOneCard() {
        TarotMerchants x = Check.taught(list(""));
        x.give(0, B);
        CHECK.due("shuffle", x.shuffle(0), 1);
        CHECK.due("seed", x.merchant(0, 2), 1);
        CHECK.due("shuffles", x.merchant(0, 7), 1);
        CHECK.due("discards", x.merchant(0, 1), 0);
        CHECK.due("deck", x.deck(0, 0), B);
    }

    private static void shufflingTwoCards() {
        TarotMerchants x = Check.taught(list("") + "start 1 of a; start 1 of b; merchant n; merchant o; merchant p;");
        int[] seeds = {264, 594, 924, 233};
        for (int merchant = 0; merchant < 4; merchant++) {
            x.shuffle(merchant);
            CHECK.due("seed of " + merchant, x.merchant(merchant, 2), seeds[merchant]);
            CHECK.due("on top", x.deck(merchant, 0), seeds[merchant] % 2 == 0 ? B : A);
            CHECK.due("below", x.deck(merchant, 1), seeds[merchant] % 2 == 0 ? A : B);
        }
    }

    private static void shufflingSixtyCards() {
        for (int merchant = 0; merchant < 4; merchant++) {
            TarotMerchants x = Check.taught(list("") + "start 9 of a; start 11 of c; merchant n; merchant o; merchant p;");
            for (int i = 0; i < 40; i++) {
                x.give(merchant, i % 3);
            }
            int[] cards = Check.discards(x, merchant);
            CHECK.due("cards", cards.length, 60);
            CHECK.due("shuffle", x.shuffle(merchant), 60);
            CHECK.dueRow("deck of " + merchant, Check.deck(x, merchant), shuffled(cards, 1 + 7 * merchant));
            CHECK.due("seed", x.merchant(merchant, 2), seedBehind(1 + 7 * merchant, 59));
        }
    }

    private static void seedGoesOnFromTurnToTurn() {
        // five cards are shuffled in each turn, which takes four seeds
        TarotMerchants x = Check.taught("card a cost 1 worth 1; card b cost 1 worth 1; card c cost 1 worth 1; start 2 of a; start 1 of b; start 2 of c;"
            + "merchant m;");
        int[] cards = {0, 0, 1, 2, 2};
        for (int round = 0; round < 30; round++) {
            x.play(1);
            cards = shuffled(cards, seedBehind(1, 4 * round));
            CHECK.dueRow("discards behind round " + round, Check.discards(x, 0), cards);
        }
        for (int round = 30; round < 390; round += 40) {
            x.play(40);
            CHECK.due("seed", x.merchant(0, 2), seedBehind(1, 4 * (round + 40)));
            CHECK.due("shuffles", x.merchant(0, 7), round + 40);
        }
    }

    private static void drawingFromAnEmptyDeck() {
        // a deck of five suffices, though it is empty then
        TarotMerchants x = laid(list(""), A, A, A, A, A);
        x.give(0, B);
        x.give(0, C);
        x.play(1);
        CHECK.due("shuffled by hand alone", x.merchant(0, 7), 5);
        CHECK.due("seed", x.merchant(0, 2), 1);
        CHECK.dueRow("discards", Check.discards(x, 0), B, C, A, A, A, A, A);
        // of a deck of four the fifth draw shuffles both discards; then b lies on top, for the seed is 264
        TarotMerchants y = laid(list(""), A, A, A, A);
        y.give(0, C);
        y.give(0, B);
        y.play(1);
        CHECK.due("shuffled", y.merchant(0, 7), 5);
        CHECK.due("seed", y.merchant(0, 2), 264);
        CHECK.dueRow("deck", Check.deck(y, 0), C);
        CHECK.dueRow("discards", Check.discards(y, 0), A, A, A, A, B);
    }

    private static void drawingWithoutAnyCard() {
        TarotMerchants x = laid(list("draws 9"), A, A, A);
        dueTurn("three cards", x, 0, 1, 3, 0, 0);
        x.play(1);
        CHECK.due("the hand is not shuffled", x.merchant(0, 7), 3);
        CHECK.dueRow("discards", Check.discards(x, 0), A, A, A);
        TarotMerchants y = Check.taught(list(""));
        y.play(40);
        CHECK.due("no discards, no shuffling", y.merchant(0, 7), 0);
        CHECK.due("seed", y.merchant(0, 2), 1);
    }

    // ---- the turn

    private static void fiveCardsAreDrawn() {
        for (int cards = 0; cards <= 7; cards++) {
            dueTurn(cards + " cards", laid(list("coins 1"), repeated(A, cards)), Math.min(cards, 5), 1, Math.min(cards, 5), 0, 0);
        }
    }

    private static void coinsAndBuysBeginAnew() {
        TarotMerchants x = laid(list("coins 7 buys 2"), A);
        for (int turn = 0; turn < 3; turn++) {
            dueTurn("turn " + turn, x, 7, 3, 1, 0, 0);
            x.play(1);
        }
        TarotMerchants y = laid(list("coins 7 - 14 * round buys 7 - 14 * round"), A);
        y.play(1);
        dueTurn("less than nothing", y, 0, 0, 1, 0, 0);
    }

    private static void thirtyCardsArePlayed() {
        for (int cards = 28; cards <= 30; cards++) {
            TarotMerchants x = laid(list("draws 9 coins 1"), repeated(A, cards));
            dueTurn(cards + " cards", x, cards, 1, cards, 0, 0);
        }
        TarotMerchants x = laid(list("draws 9 coins 1"), repeated(A, 30));
        x.give(0, B);
        dueTurn("31 cards", x, 30, 1, 30, 0, 0);
        x.play(1);
        CHECK.due("played", x.card(A, 5), 30);
        CHECK.due("not played", x.card(B, 5), 0);
        // the 30th card does its deeds: it draws the 31st, and trashes it
        TarotMerchants y = laid(list("draws 1 trash b"), repeated(A, 30));
        y.give(0, B);
        dueTurn("draws 1", y, 0, 1, 30, 1, 0);
        // b is drawn by the 26th already, and only the 30th card trashes
        TarotMerchants z = laid("card a cost 1 worth 1 draws 1; card b cost 1 worth 1; card c cost 1 worth 1 trash b coins 5; pile 29 of a; pile 9 of b;"
            + "pile 1 of c; merchant m;", repeated(0, 29));
        z.give(0, 2);
        z.shuffle(0);
        z.give(0, 1);
        z.shuffle(0);
        z.give(0, 1);
        dueTurn("the 30th card", z, 5, 1, 30, 1, 0);
    }

    private static void whatIsNotPlayedStaysInTheHand() {
        // 30 of a, then b, c and b: c and b are drawn by the 27th and 28th card
        TarotMerchants x = laid(list("draws 1"), repeated(A, 30));
        for (int card : new int[] {B, C, B}) {
            x.give(0, card);
            x.shuffle(0);
        }
        x.play(1);
        CHECK.due("discards", x.merchant(0, 1), 33);
        CHECK.due("deck", x.merchant(0, 0), 0);
        CHECK.due("discard(0, 29)", x.discard(0, 29), A);
        CHECK.due("discard(0, 30)", x.discard(0, 30), B);
        CHECK.due("discard(0, 31)", x.discard(0, 31), C);
        CHECK.due("discard(0, 32)", x.discard(0, 32), B);
        CHECK.due("played", x.card(A, 5) + x.card(B, 5) + x.card(C, 5), 30);
    }

    private static void drawsAreHeld() {
        String[] sums = {LEAST, "-999999", "-1", "0", "1", "8", "9", "10", "11", "999999", MOST};
        int[] drawn = {0, 0, 0, 0, 1, 8, 9, 9, 9, 9, 9};
        for (int i = 0; i < sums.length; i++) {
            // the only a lies on top
            TarotMerchants x = laid(list("draws " + sums[i]), repeated(B, 25));
            TarotMerchants y = laid(list("draws " + sums[i]), A);
            for (int j = 0; j < 25; j++) {
                y.give(0, B);
                y.shuffle(0);
            }
            dueTurn("without draws " + sums[i], x, 0, 1, 5, 0, 0);
            dueTurn("draws " + sums[i], y, 0, 1, 5 + drawn[i], 0, 0);
        }
        // each deed is held by itself
        TarotMerchants z = laid(list("draws 9 draws 9 draws -9 draws 1"), A);
        for (int j = 0; j < 28; j++) {
            z.give(0, B);
            z.shuffle(0);
        }
        dueTurn("several deeds", z, 0, 1, 24, 0, 0);
    }

    private static void dueCoins(String deeds, int want) {
        TarotMerchants x = laid(list(deeds), A);
        CHECK.due("coins of " + deeds, x.next(0, 0), want);
        x.play(1);
        CHECK.due("coins of the latest turn of " + deeds, x.merchant(0, 6), want);
    }

    private static void coinsAreHeld() {
        dueCoins("coins 0", 0);
        dueCoins("coins 998", 998);
        dueCoins("coins 999", 999);
        dueCoins("coins 1000", 999);
        dueCoins("coins 998 coins 1", 999);
        dueCoins("coins 999 coins 1", 999);
        dueCoins("coins 1000 coins -1", 998);
        dueCoins("coins -1", 0);
        dueCoins("coins 1 coins -1", 0);
        dueCoins("coins 1 coins -2", 0);
        dueCoins("coins -1 coins 1", 1);
        dueCoins("coins 3 coins -4 coins 2 coins coins", 4);
        dueCoins("coins 500 coins coins coins coins", 999);
        dueCoins("coins " + MOST, 999);
        dueCoins("coins " + MOST + " + 1", 0);
        dueCoins("coins 999 coins " + MOST, 999);
        dueCoins("coins 999 coins " + LEAST + " coins 1", 1);
    }

    private static void dueSecondCoins(String deeds, int want) {
        // the second card of two does what the combos tell
        CHECK.due("coins of two cards with " + deeds, laid(list(deeds), A, A).next(0, 0), want);
    }

    private static void coinsOfCombosAreHeld() {
        dueSecondCoins("combo a 999", 999);
        dueSecondCoins("combo a 1000", 999);
        dueSecondCoins("combo a 998 combo a 1 combo a 1 combo a -1", 998);
        dueSecondCoins("combo a -1", 0);
        dueSecondCoins("combo a -1 combo a 5", 5);
        dueSecondCoins("combo a 5 combo a -5", 0);
        dueSecondCoins("combo a 5 combo a " + MOST, 999);
        dueSecondCoins("combo a 5 combo a " + LEAST + " combo a 2", 2);
    }

    private static void dueBuys(String deeds, int want) {
        CHECK.due("buys of " + deeds, laid(list(deeds), A).next(0, 1), want);
    }

    private static void buysAreHeld() {
        dueBuys("buys 0", 1);
        dueBuys("buys 7", 8);
        dueBuys("buys 8", 9);
        dueBuys("buys 9", 9);
        dueBuys("buys 8 buys 1 buys -1", 8);
        dueBuys("buys -1", 0);
        dueBuys("buys -2", 0);
        dueBuys("buys -2 buys 3", 3);
        dueBuys("buys " + MOST, 9);
        dueBuys("buys " + LEAST, 0);
        dueBuys("buys 4 buys buys", 9);
        TarotMerchants x = laid(list("buys 99 coins 999") + Check.repeat("buy b for m;", 10), A);
        CHECK.due("nine are bought of ten", x.play(1), 9);
    }

    private static void trashOfTheFirstNotYetPlayed() {
        // b a c b a: the a trashes the b behind it, which was not yet played
        TarotMerchants x = laid(list("trash b"), B, A, C, B, C);
        dueTurn("trash b", x, 0, 1, 4, 1, 0);
        x.play(1);
        CHECK.dueRow("discards", Check.discards(x, 0), B, A, C, C);
        // of two the first goes
        TarotMerchants y = laid(list("trash b"), A, B, C, B);
        y.play(1);
        CHECK.dueRow("discards", Check.discards(y, 0), A, C, B);
        CHECK.due("owned by nobody", y.card(B, 4), 1);
        CHECK.due("and not in the pile", y.card(B, 3), 28);
        CHECK.due("trashed", y.merchant(0, 4), 1);
        // the last one of the hand
        TarotMerchants z = laid(list("trash c"), A, B, B, B, C);
        dueTurn("trash c", z, 0, 1, 4, 1, 0);
    }

    private static void trashWithoutSuchACard() {
        dueTurn("none at all", laid(list("trash b"), A, C, C), 0, 1, 3, 0, 0);
        dueTurn("played already", laid(list("trash b"), B, A), 0, 1, 2, 0, 0);
        dueTurn("this one is played", laid(list("trash a"), A), 0, 1, 1, 0, 0);
        dueTurn("this one and another", laid(list("trash a"), A, A), 0, 1, 1, 1, 0);
        dueTurn("in the deck alone", laid(list("trash b"), A, C, C, C, C, B), 0, 1, 5, 0, 0);
        TarotMerchants x = laid(list("trash b trash b trash b"), A, B, B);
        dueTurn("two for three deeds", x, 0, 1, 1, 2, 0);
        TarotMerchants y = laid(list("trash b"), A, C, C, C, C);
        y.give(0, B);
        dueTurn("among the discards alone", y, 0, 1, 5, 0, 0);
        y.play(1);
        CHECK.due("trashed", y.count(6), 0);
    }

    private static void comboOfACardAhead() {
        dueTurn("ahead", laid(list("combo b 7"), B, A), 7, 1);
        dueTurn("far ahead", laid(list("combo b 7"), B, C, C, C, A), 7, 1);
        dueTurn("behind", laid(list("combo b 7"), A, B), 0, 1);
        dueTurn("not at all", laid(list("combo b 7"), C, A), 0, 1);
        dueTurn("once for two", laid(list("combo b 7"), B, B, A), 7, 1);
        // the b is trashed and never played
        dueTurn("trashed", laid(list("trash b combo b 7"), A, B, A), 0, 1);
    }

    private static void comboOfItself() {
        dueTurn("once", laid(list("combo a 7"), A), 0, 1);
        dueTurn("twice", laid(list("combo a 7"), A, A), 7, 1);
        dueTurn("three times", laid(list("combo a 7"), A, A, A), 14, 1);
        // the sum is not reckoned: the coins stay
        dueTurn("the first has no combo", laid(list("coins 5 combo a - 5"), A), 5, 1);
        dueTurn("the second has", laid(list("coins 5 combo a - 5"), A, A), 5, 1);
    }

    private static void comboOfThisTurnAlone() {
        // b and four c are played in the first turn, the a in the second one
        TarotMerchants x = laid(list("combo b 7"), B, C, C, C, C, A, C, C, C, C);
        x.play(1);
        CHECK.due("b was played", x.card(B, 5), 1);
        dueTurn("the turn behind", x, 0, 1, 5);
    }

    private static void fourDeedsAreNoMore() {
        // a does its four deeds and nothing of the card told behind it, nor of those of lists ahead
        TarotMerchants x = Check.taught("card a cost 0 worth 1 coins 1 coins 1 coins 1 coins 1; card b cost 0 worth 1 coins 100; start 1 of a; merchant m;");
        CHECK.due("four deeds", x.next(0, 0), 4);
        for (int deeds = 3; deeds >= 0; deeds--) {
            for (int again = 0; again < 2; again++) {
                Check.teach(x, "card a cost 0 worth 1" + Check.repeat(" coins 1", deeds) + "; start 1 of a; merchant m;");
                CHECK.due(deeds + " deeds", x.next(0, 0), deeds);
            }
        }
    }

    // ---- orders

    private static void orderWithoutABuy() {
        CHECK.due("no buy", laid(list("coins 9 buys -1") + "buy a for m;", A).play(1), 0);
        CHECK.due("one buy", laid(list("coins 9") + "buy a for m; buy a for m;", A).play(1), 1);
        CHECK.due("two buys", laid(list("coins 9 buys 1") + "buy a for m; buy a for m; buy a for m;", A).play(1), 2);
    }

    private static void orderOfWhatItCosts() {
        CHECK.due("as many coins as it costs", laid(list("coins 3") + "buy c for m;", A).play(1), 1);
        CHECK.due("a coin less", laid(list("coins 2") + "buy c for m;", A).play(1), 0);
        CHECK.due("5 coins for 3 and 2", laid(list("coins 5 buys 1") + "buy c for m; buy b for m;", A).play(1), 2);
        CHECK.due("4 coins for 3 and 2", laid(list("coins 4 buys 1") + "buy c for m; buy b for m;", A).play(1), 1);
        CHECK.due("4 coins for 3, then 1", laid(list("coins 4 buys 1") + "buy c for m; buy b for m; buy a for m;", A).play(1), 2);
        TarotMerchants x = Check.taught("card a cost 99 worth 1 coins 98; card b cost 0 worth 1; pile 9 of a; pile 9 of b; merchant m; buy a for m;"
            + "buy b for m;");
        x.give(0, 0);
        CHECK.due("cost 0 with 98 coins", x.play(1), 1);
        CHECK.due("b", x.owns(0, 1), 1);
        TarotMerchants y = Check.taught("card b cost 0 worth 1; pile 9 of b; merchant m; buy b for m;");
        CHECK.due("cost 0 without coins", y.play(1), 1);
    }

    private static void orderOfAnEmptyPile() {
        String list = "card a cost 0 worth 1 buys 5; card b cost 0 worth 1; start 1 of a; merchant m; merchant n; buy b for m; buy b for m; buy b for n;";
        TarotMerchants x = Check.taught(list + "pile 3 of b;");
        CHECK.due("3 for 3", x.play(1), 3);
        CHECK.due("pile", x.card(1, 3), 0);
        CHECK.due("0 for 3", x.play(1), 0);
        TarotMerchants y = Check.taught(list + "pile 2 of b;");
        CHECK.due("2 for 3", y.play(1), 2);
        CHECK.due("all for m", y.owns(0, 1), 2);
        CHECK.due("none by an empty pile", Check.taught(list + "pile 0 of b;").play(1), 0);
    }

    private static TarotMerchants owning(String orders, int many) {
        TarotMerchants x = Check.taught("card a cost 0 worth 1 buys 1; card b cost 0 worth 1; start 20 of a; pile 30 of a; pile 30 of b; merchant m;"
            + orders);
        for (int i = 20; i < many; i++) {
            x.give(0, i < 50 ? 0 : 1);
        }
        return x;
    }

    private static void orderOfThe60thCard() {
        CHECK.due("59 cards", owning("buy b for m; buy b for m;", 59).next(0, 4), 1);
        CHECK.due("60 cards", owning("buy b for m; buy b for m;", 60).next(0, 4), 0);
        TarotMerchants x = owning("buy b for m; buy b for m; buy b for m;", 58);
        CHECK.due("58 cards", x.play(1), 2);
        CHECK.due("owned", x.count(5), 60);
        // by a trash in the turn there is room for one again: b lies on top, then a
        TarotMerchants y = Check.taught("card a cost 0 worth 1; card b cost 0 worth 1 trash a buys 5; card c cost 0 worth 1; pile 30 of a;"
            + "pile 30 of b; pile 30 of c; merchant m; buy c for m; buy c for m;");
        for (int i = 0; i < 60; i++) {
            y.give(0, i > 0 && i <= 30 ? 0 : 1);
            y.shuffle(0);
        }
        CHECK.due("owned", y.count(5), 60);
        dueTurn("trash one of 60", y, 0, 6, 4, 1, 1);
    }

    private static void orderOfTheTestNow() {
        String two = "buy a for m when left a = 30; buy a for m when left a = ";
        String cards = "card a cost 0 worth 1 buys 9; pile 30 of a; start 1 of a; merchant m; ";
        CHECK.due("the second holds now", Check.taught(cards + two + "29;").play(1), 2);
        CHECK.due("the second held ahead", Check.taught(cards + two + "30;").play(1), 1);
        CHECK.due("owned now", Check.taught(cards + "buy a for m when owned a = 1; buy a for m when owned a = 2; buy a for m when owned a = 2;").play(1), 2);
        CHECK.due("buys now", Check.taught(cards + "buy a for m when buys = 9; buy a for m when buys = 8; buy a for m when buys = 8;").play(1), 2);
        CHECK.due("the hand stays", Check.taught(cards + "buy a for m when hand = 1; buy a for m when hand = 1;").play(1), 2);
    }

    private static void orderOnce() {
        TarotMerchants x = laid(list("coins 99 buys 9") + "buy a for m;", A);
        CHECK.due("one order", x.play(1), 1);
        CHECK.due("once a turn", x.play(1), 1);
        // the second order comes too late for the first one, which is not looked at again
        TarotMerchants y = laid(list("coins 99 buys 9") + "buy a for m when owned b = 1; buy b for m;", A);
        CHECK.due("in the order in which they are told", y.play(1), 1);
        CHECK.due("b", y.owns(0, B), 1);
    }

    private static void handIsPutAwayBehindWhatIsBought() {
        TarotMerchants x = laid(list("coins 9 buys 1") + "buy c for m; buy b for m;", A, B);
        x.give(0, A);
        x.give(0, B);
        x.play(1);
        // the fresh discards were shuffled for the third draw, so all comes to the hand
        CHECK.due("discards", x.merchant(0, 1), 6);
        CHECK.due("bought first", x.discard(0, 0), C);
        CHECK.due("bought second", x.discard(0, 1), B);
        CHECK.due("the hand", x.discard(0, 2), A);
        TarotMerchants y = laid(list("coins 9 buys 1") + "buy c for m; buy b for m;", A, B, B, B, A);
        y.give(0, C);
        y.play(1);
        CHECK.dueRow("discards", Check.discards(y, 0), C, C, B, A, B, B, B, A);
    }

    // ---- values

    private static void valuesAtTheirEdges() {
        String cards = "card a cost 0 worth 1; card b cost 0 worth 1; pile 30 of a; pile 30 of b; merchant m;";
        String nothing = "hand = 0 and played a = 0 and owned a = 0 and trashed = 0 and coins = 0 and buys = 1 and round = 0 and left a = 30";
        CHECK.due("without cards", Check.taught(cards + "buy a for m when " + nothing + ";").next(0, 4), 1);
        // five of six cards are in the hand, all are owned
        CHECK.due("six cards", laid(cards + "buy a for m when hand = 5 and played b = 5 and owned b = 6 and left b = 24;", 1, 1, 1, 1, 1, 1).next(0, 4), 1);
        // the one that is being played is counted, and those behind it are not
        CHECK.due("played", laid(list("coins played a * 10 + played b"), B, A, B, A, B).next(0, 0), 11 + 22);
        // a trashed card is not in the hand, not played and not owned, but trashed
        CHECK.due("trashed", laid(list("trash b coins 1000 - 100 * hand - 10 * owned b - trashed"), A, B).next(0, 0), 899);
        TarotMerchants x = laid(list("coins trashed"), A);
        x.give(0, B);
        x.trash(0, B);
        x.give(0, C);
        x.trash(0, C);
        CHECK.due("trashed in all", x.next(0, 0), 2);
        TarotMerchants y = Check.taught(list("") + "merchant n; buy a for n when trashed > 0;");
        y.give(0, B);
        y.trash(0, B);
        CHECK.due("trashed by another", y.next(1, 4), 0);
    }

    private static void roundIsTheSameForAll() {
        TarotMerchants x = Check.taught("card a cost 0 worth 1; pile 30 of a; merchant m; merchant n; buy a for n when round = 0; buy a for m when round = 1;");
        CHECK.due("round 0", x.play(1), 1);
        CHECK.due("n bought", x.owns(1, 0), 1);
        CHECK.due("round 1", x.play(1), 1);
        CHECK.due("m bought", x.owns(0, 0), 1);
        CHECK.due("round 2", x.play(1), 0);
        CHECK.due("rounds", x.count(0), 3);
    }

    private static void bindingOfTests() {
        CHECK.dueHolds("1 = 1 or 1 = 1 and 1 = 2", true);
        CHECK.dueHolds("[1 = 1 or 1 = 1] and 1 = 2", false);
        CHECK.dueHolds("1 = 2 and 1 = 1 or 1 = 1", true);
        CHECK.dueHolds("1 = 2 and [1 = 1 or 1 = 1]", false);
        CHECK.dueHolds("not 1 = 1 and 1 = 2", false);
        CHECK.dueHolds("not [1 = 1 and 1 = 2]", true);
        CHECK.dueHolds("not 1 = 1 or 1 = 1", true);
        CHECK.dueHolds("not [1 = 1 or 1 = 1]", false);
        CHECK.dueHolds("1 = 1 or 5 / 0 = 1", true);
        String[] good = {"1 < 2", "2 > 1", "1 = 1", "1 <= 1", "1 >= 1", "1 <= 2", "2 >= 1"};
        String[] bad = {"1 < 1", "1 > 1", "1 = 2", "2 <= 1", "1 >= 2", "2 < 1", "1 > 2"};
        for (int i = 0; i < good.length; i++) {
            CHECK.dueHolds("not " + good[i], false);
            CHECK.dueHolds("not not " + good[i], true);
            CHECK.dueHolds("not " + bad[i], true);
            for (int j = 0; j < good.length; j++) {
                CHECK.dueHolds(good[i] + " and " + good[j], true);
                CHECK.dueHolds(good[i] + " and " + bad[j], false);
                CHECK.dueHolds(bad[i] + " or " + good[j], true);
                CHECK.dueHolds(bad[i] + " or " + bad[j], false);
            }
        }
    }
}
