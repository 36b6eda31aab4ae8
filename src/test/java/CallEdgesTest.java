/** The boundary cases that "Promise 1" to "Promise 22" name: a method for each line of Throws, "-1 if", "0 without", "of several". */
public final class CallEdgesTest {
    private static final Check CHECK = new Check("CallEdgesTest");
    private static final Class<IllegalStateException> STATE = IllegalStateException.class;
    private static final Class<IllegalArgumentException> ARGUMENT = IllegalArgumentException.class;
    private static final Class<IndexOutOfBoundsException> BOUNDS = IndexOutOfBoundsException.class;
    private static final int LEAST = Integer.MIN_VALUE;
    private static final int MOST = Integer.MAX_VALUE;
    /** Three cards, two merchants and three orders; c has an empty pile. */
    private static final String MARKET = "card a cost 0 worth 1 coins 1; card b cost 3 worth 5 draws 1; card c cost 2 worth 2; start 4 of a; start 1 of c;"
        + "pile 30 of a; pile 30 of b; merchant m; merchant n; buy b for m; buy a for n; buy a for m when round > 2;";

    public static void main(String[] args) {
        newObject();
        newObjectRefuses();
        feedOfMoreThan2000();
        feedTheHighestByteFirst();
        trimOfWhatIsNotThere();
        trimThenFeed();
        teachWithAnErrorChangesNothing();
        teachBeginsAnew();
        errorAtOfTheLatestTeach();
        countOfWhatIsNot();
        cardOfWhatIsNot();
        merchantOfWhatIsNot();
        merchantCoinsWithoutATurn();
        merchantShufflesOfOneCard();
        ownsOfWhatIsNot();
        deckOfWhatIsNot();
        discardOfWhatIsNot();
        leaderOfSeveral();
        leaderWithoutMerchants();
        giveOfWhatIsNot();
        giveOfAnEmptyPile();
        giveTo60Cards();
        trashOfWhatIsNot();
        trashWithoutSuchACard();
        trashOfTheFirst();
        shuffleOfWhatIsNot();
        playOfOneTo40Rounds();
        playTellsWhatIsBoughtInThem();
        nextOfWhatIsNot();
        nextIfItCameNow();
        foreseeOfWhatIsNot();
        foreseeOf1To40Rounds();
        foreseeWithoutMerchants();
        missedOfWhatIsNot();
        missedOf1To20Rounds();
        missedWithoutOrders();
        missedOfSeveral();
        adviseOfWhatIsNot();
        adviseOf1To20Rounds();
        adviseWithoutACard();
        adviseOfSeveral();
        meanWithoutMerchants();
        digestWrapsAround();
        whatIsForeseenChangesNothing();
        refusedCallsLeaveThePlay();
        CHECK.end();
    }

    /** Each of these numbers is refused in a market of its own; a call takes the market and the number. */
    private interface NumberCall {
        long answer(TarotMerchants x, int n);
    }

    private static void dueRefused(String what, Class<? extends RuntimeException> want, NumberCall call, int... wrong) {
        for (int n : wrong) {
            TarotMerchants x = played();
            CHECK.dueRefused(what + " of " + n, x, () -> call.answer(x, n), want);
        }
    }

    /** Both merchants have a deck and discards; the latest teach() had an error, and the tape has bytes. */
    private static TarotMerchants played() {
        TarotMerchants x = Check.taught(MARKET);
        x.shuffle(0);
        x.give(0, 1);
        x.play(3);
        x.shuffle(1);
        x.give(0, 0);
        x.give(1, 1);
        Check.teach(x, "merchant m; merchant m;");
        Check.feed(x, "merchant z;");
        return x;
    }

    // ---- promise 1

    private static void newObject() {
        for (int what = 0; what <= 8; what++) {
            CHECK.due("count(" + what + ")", new TarotMerchants().count(what), 0);
        }
        TarotMerchants x = new TarotMerchants();
        CHECK.due("errorAt()", x.errorAt(), -1);
        CHECK.due("leader()", x.leader(), -1);
        CHECK.due("trim(0)", x.trim(0), 0);
        CHECK.due("teach()", x.teach(), 0);
        CHECK.due("play(40)", x.play(40), 0);
        CHECK.due("rounds", x.count(0), 40);
    }

    private static void newObjectRefuses() {
        TarotMerchants x = new TarotMerchants();
        CHECK.dueRefused("card(0, 0)", x, () -> x.card(0, 0), BOUNDS);
        CHECK.dueRefused("merchant(0, 0)", x, () -> x.merchant(0, 0), BOUNDS);
        CHECK.dueRefused("owns(0, 0)", x, () -> x.owns(0, 0), BOUNDS);
        CHECK.dueRefused("deck(0, 0)", x, () -> x.deck(0, 0), BOUNDS);
        CHECK.dueRefused("discard(0, 0)", x, () -> x.discard(0, 0), BOUNDS);
        CHECK.dueRefused("give(0, 0)", x, () -> x.give(0, 0), BOUNDS);
        CHECK.dueRefused("trash(0, 0)", x, () -> x.trash(0, 0), BOUNDS);
        CHECK.dueRefused("shuffle(0)", x, () -> x.shuffle(0), BOUNDS);
        CHECK.dueRefused("next(0, 0)", x, () -> x.next(0, 0), BOUNDS);
        CHECK.dueRefused("missed(0, 1)", x, () -> x.missed(0, 1), BOUNDS);
        CHECK.dueRefused("advise(0, 1)", x, () -> x.advise(0, 1), BOUNDS);
        CHECK.dueRefused("trim(1)", x, () -> x.trim(1), ARGUMENT);
    }

    // ---- promises 2 and 3

    private static void feedOfMoreThan2000() {
        for (int bytes = 1979; bytes <= 2000; bytes++) {
            TarotMerchants x = new TarotMerchants();
            Check.feed(x, Check.repeat(" ", bytes - 11) + "merchant m;");
            if (bytes <= 1980) {
                CHECK.due("feed behind " + bytes, x.feed(0x20202020, 0x20202020, 0x20202020, 0x20202020, 0x20202020), bytes + 20);
            } else {
                CHECK.dueRefused("feed behind " + bytes, x, () -> x.feed(0x3b3b3b3b, 1, 2, 3, 4), STATE);
                CHECK.due("bytes", x.count(8), bytes);
            }
            CHECK.due("the tape as it was", x.teach(), 0);
            CHECK.due("the tape as it was", x.count(2), 1);
        }
    }

    private static void feedTheHighestByteFirst() {
        int[] wrong = {0x3f202020, 0x203f2020, 0x20203f20, 0x2020203f, 0xff202020, 0x20ff2020, 0x2020ff20, 0x202020ff};
        for (int number = 0; number < 5; number++) {
            for (int i = 0; i < wrong.length; i++) {
                int[] n = {0x20202020, 0x0a0a0a0a, 0x20202020, 0x0a0a0a0a, 0x20202020};
                n[number] = wrong[i];
                TarotMerchants x = new TarotMerchants();
                CHECK.due("feed", x.feed(n[0], n[1], n[2], n[3], n[4]), 20);
                CHECK.due("teach", x.teach(), 1);
                CHECK.due("byte " + i % 4 + " of number " + number, x.errorAt(), 4 * number + i % 4);
            }
        }
    }

    private static void trimOfWhatIsNotThere() {
        dueRefused("trim", ARGUMENT, TarotMerchants::trim, -1, 12, 13, 2000, LEAST, MOST);
        for (int n = 0; n <= 11; n++) {
            CHECK.due("trim", played().trim(n), n);
        }
        TarotMerchants x = played();
        CHECK.dueIllegalArgument("trim(12)", () -> x.trim(12));
        CHECK.due("the bytes are as they were", x.teach(), 0);
        CHECK.due("merchant z", x.count(2), 1);
        Check.feed(x, Check.repeat(" ", 2000));
        CHECK.dueIllegalArgument("trim(2001)", () -> x.trim(2001));
        CHECK.due("trim(2000)", x.trim(2000), 2000);
    }

    private static void trimThenFeed() {
        TarotMerchants x = new TarotMerchants();
        Check.feed(x, "merchant mnopq;????");
        CHECK.due("trim", x.trim(10), 10);
        CHECK.due("feed goes on there", x.feed(0x6e3b2020, 0x20202020, 0x20202020, 0x20202020, 0x20202020), 30);
        CHECK.due("teach of merchant mn", x.teach(), 0);
        Check.feed(x, "merchant mnopq;????");
        x.trim(0);
        CHECK.due("teach of nothing", x.teach(), 0);
        CHECK.due("merchants", x.count(2), 0);
    }

    // ---- promises 4 and 5

    private static void teachWithAnErrorChangesNothing() {
        String[] wrong = {"?", "merchant x; merchant x;", "card z cost 1 worth 1; pile 1 of y;", "card z cost 1 worth 1; start 21 of z;",
            "card z cost 1 worth 1; merchant x; pile 31 of z;"};
        for (int error = 1; error <= 5; error++) {
            TarotMerchants x = Check.taught(MARKET);
            TarotMerchants y = Check.taught(MARKET);
            x.play(2);
            y.play(2);
            CHECK.due("teach", Check.teach(x, MARKET.replace("worth 1", "worth 9") + wrong[error - 1]), error);
            CHECK.due("all stays", x.digest(), y.digest());
            CHECK.due("it goes on by the old list", x.play(5), y.play(5));
            CHECK.due("all goes on", x.digest(), y.digest());
            CHECK.due("missed", x.missed(0, 3), y.missed(0, 3));
            CHECK.due("advise", x.advise(1, 3), y.advise(1, 3));
        }
    }

    private static void teachBeginsAnew() {
        TarotMerchants x = played();
        x.trim(0);
        CHECK.due("teach", Check.teach(x, MARKET), 0);
        CHECK.due("as a new object", x.digest(), Check.taught(MARKET).digest());
        x.play(4);
        CHECK.due("an empty list", x.teach(), 0);
        CHECK.due("as a new object", x.digest(), new TarotMerchants().digest());
        CHECK.dueRefused("no merchants", x, () -> x.merchant(0, 0), BOUNDS);
        CHECK.dueRefused("no cards", x, () -> x.card(0, 0), BOUNDS);
        // as many as can be told, then few
        CHECK.due("teach", Check.teach(x, "card a cost 9 worth 9 coins 9 buys 9 draws 9 trash a; start 20 of a; pile 30 of a; merchant m; merchant n;"
            + Check.repeat("buy a for m when 1 = 2;", 16)), 0);
        CHECK.due("teach", Check.teach(x, "card b cost 0 worth 1; merchant m; pile 2 of b; buy b for m;"), 0);
        CHECK.due("deeds", x.card(0, 2), 0);
        CHECK.due("orders", x.count(3), 1);
        CHECK.due("no test of the list ahead", x.play(1), 1);
        CHECK.due("teach", Check.teach(x, "card b cost 0 worth 1; merchant m;"), 0);
        CHECK.due("no pile of the list ahead", x.count(4), 0);
    }

    private static void errorAtOfTheLatestTeach() {
        TarotMerchants x = new TarotMerchants();
        CHECK.due("ahead of all", x.errorAt(), -1);
        x.feed(0x3f3f3f3f, 0, 0, 0, 0);
        CHECK.due("ahead of teach", x.errorAt(), -1);
        x.teach();
        CHECK.due("at the beginning", x.errorAt(), 0);
        x.feed(0, 0, 0, 0, 0);
        x.trim(3);
        x.play(1);
        CHECK.due("till the next teach", x.errorAt(), 0);
        Check.teach(x, Check.repeat(" ", 1990) + "merchant a");
        CHECK.due("at the end of a full tape", x.errorAt(), 2000);
        CHECK.due("without an error", Check.teach(x, "merchant a;"), 0);
        CHECK.due("without an error", x.errorAt(), -1);
        Check.teach(x, "merchant a; merchant a;");
        CHECK.due("error 2", x.errorAt(), 21);
        CHECK.due("an empty tape", x.teach(), 0);
        CHECK.due("an empty tape", x.errorAt(), -1);
    }

    // ---- promises 6 to 12

    private static void countOfWhatIsNot() {
        dueRefused("count", BOUNDS, TarotMerchants::count, -1, 9, 10, LEAST, MOST);
        int[] want = {3, 3, 2, 3, 0, 0, 0, 0, 11};
        TarotMerchants x = played();
        for (int what : new int[] {0, 1, 2, 3, 8}) {
            CHECK.due("count(" + what + ")", x.count(what), want[what]);
        }
    }

    private static void cardOfWhatIsNot() {
        dueRefused("card", BOUNDS, (x, n) -> x.card(n, 0), -1, 3, 4, 10, LEAST, MOST);
        dueRefused("what of card", BOUNDS, (x, n) -> x.card(2, n), -1, 7, 8, LEAST, MOST);
        TarotMerchants x = Check.taught(MARKET);
        int[] want = {2, 2, 0, 0, 2, 0, 0};
        for (int what = 0; what <= 6; what++) {
            CHECK.due("card(2, " + what + ")", x.card(2, what), want[what]);
        }
    }

    private static void merchantOfWhatIsNot() {
        dueRefused("merchant", BOUNDS, (x, n) -> x.merchant(n, 0), -1, 2, 3, 4, LEAST, MOST);
        dueRefused("what of merchant", BOUNDS, (x, n) -> x.merchant(1, n), -1, 8, 9, LEAST, MOST);
        TarotMerchants x = Check.taught(MARKET);
        int[] want = {0, 5, 8, 6, 0, 0, 0, 0};
        for (int what = 0; what <= 7; what++) {
            CHECK.due("merchant(1, " + what + ")", x.merchant(1, what), want[what]);
        }
    }

    private static void merchantCoinsWithoutATurn() {
        TarotMerchants x = Check.taught(MARKET);
        CHECK.due("without a turn", x.merchant(0, 6), 0);
        CHECK.due("coins", x.next(0, 0), 4);
        x.foresee(3, 5);
        x.missed(0, 3);
        x.advise(0, 3);
        CHECK.due("still without a turn", x.merchant(0, 6), 0);
        x.play(1);
        CHECK.due("behind step 2, though three were paid", x.merchant(0, 6), 4);
        Check.teach(x, MARKET);
        CHECK.due("all begins anew", x.merchant(0, 6), 0);
        // the latest turn alone
        TarotMerchants y = Check.taught("card a cost 0 worth 0 coins 5 - 5 * round; start 1 of a; merchant m;");
        y.play(1);
        CHECK.due("round 0", y.merchant(0, 6), 5);
        y.play(1);
        CHECK.due("round 1", y.merchant(0, 6), 0);
    }

    private static void merchantShufflesOfOneCard() {
        TarotMerchants x = Check.taught("card a cost 0 worth 1; start 1 of a; merchant m; merchant n;");
        x.play(3);
        CHECK.due("one card is shuffled in each turn", x.merchant(0, 7), 3);
        CHECK.due("its seed stays", x.merchant(0, 2), 1);
        x.trash(1, 0);
        x.play(3);
        CHECK.due("no card is not shuffled", x.merchant(1, 7), 3);
    }

    private static void ownsOfWhatIsNot() {
        dueRefused("merchant of owns", BOUNDS, (x, n) -> x.owns(n, 0), -1, 2, 3, 4, LEAST, MOST);
        dueRefused("card of owns", BOUNDS, (x, n) -> x.owns(0, n), -1, 3, 4, 10, LEAST, MOST);
        CHECK.due("owns(1, 2)", Check.taught(MARKET).owns(1, 2), 1);
        CHECK.due("owns(1, 1)", Check.taught(MARKET).owns(1, 1), 0);
    }

    private static void deckOfWhatIsNot() {
        dueRefused("merchant of deck", BOUNDS, (x, n) -> x.deck(n, 0), -1, 2, 3, 4, LEAST, MOST);
        dueRefused("place of deck", BOUNDS, (x, n) -> x.deck(1, n), -1, played().merchant(1, 0), 60, LEAST, MOST);
        TarotMerchants x = Check.taught(MARKET);
        CHECK.dueRefused("deck of an empty one", x, () -> x.deck(0, 0), BOUNDS);
        x.shuffle(0);
        for (int place = 0; place < 5; place++) {
            CHECK.due("deck(0, " + place + ") is a card", x.deck(0, place) % 2, 0);
        }
        CHECK.dueRefused("deck(0, 5)", x, () -> x.deck(0, 5), BOUNDS);
        // behind a turn it begins with the card that is on top then
        TarotMerchants y = Check.taught("card a cost 0 worth 1; card b cost 0 worth 1; start 5 of a; pile 9 of b; merchant m;");
        y.shuffle(0);
        y.give(0, 1);
        y.shuffle(0);
        y.play(1);
        CHECK.due("deck(0, 0)", y.deck(0, 0), 1);
        CHECK.dueRefused("deck(0, 1)", y, () -> y.deck(0, 1), BOUNDS);
        CHECK.dueRefused("deck(0, -1)", y, () -> y.deck(0, -1), BOUNDS);
    }

    private static void discardOfWhatIsNot() {
        dueRefused("merchant of discard", BOUNDS, (x, n) -> x.discard(n, 0), -1, 2, 3, 4, LEAST, MOST);
        dueRefused("place of discard", BOUNDS, (x, n) -> x.discard(0, n), -1, played().merchant(0, 1), 60, LEAST, MOST);
        TarotMerchants x = Check.taught(MARKET);
        CHECK.due("the oldest", x.discard(1, 0), 0);
        CHECK.due("the latest", x.discard(1, 4), 2);
        CHECK.dueRefused("discard(1, 5)", x, () -> x.discard(1, 5), BOUNDS);
        x.shuffle(1);
        CHECK.dueRefused("discard without one", x, () -> x.discard(1, 0), BOUNDS);
    }

    private static void leaderOfSeveral() {
        TarotMerchants x = Check.taught("card a cost 0 worth 2; card b cost 0 worth 1; card z cost 0 worth 0; pile 9 of a; pile 9 of b; pile 9 of z;"
            + "merchant m; merchant n; merchant o; merchant p;");
        CHECK.due("all without cards", x.leader(), 0);
        x.give(0, 2);
        CHECK.due("worth 0: who owns the fewest", x.leader(), 1);
        x.give(3, 1);
        CHECK.due("the most worth", x.leader(), 3);
        x.give(2, 1);
        CHECK.due("as much and as many: the smallest number", x.leader(), 2);
        x.give(1, 0);
        CHECK.due("the most worth", x.leader(), 1);
        x.give(0, 0);
        CHECK.due("as much, but more cards", x.leader(), 1);
        x.give(2, 1);
        x.give(3, 1);
        CHECK.due("as much, and the fewest", x.leader(), 1);
        x.give(3, 1);
        CHECK.due("the most worth, and the most cards", x.leader(), 3);
        x.shuffle(3);
        CHECK.due("in the deck", x.leader(), 3);
    }

    private static void leaderWithoutMerchants() {
        CHECK.due("without merchants", Check.taught("card a cost 1 worth 1; start 2 of a; pile 3 of a;").leader(), -1);
        CHECK.due("without cards", Check.taught("merchant m;").leader(), 0);
    }

    // ---- promises 13 to 15

    private static void giveOfWhatIsNot() {
        dueRefused("merchant of give", BOUNDS, (x, n) -> x.give(n, 0), -1, 2, 3, 4, LEAST, MOST);
        dueRefused("card of give", BOUNDS, (x, n) -> x.give(0, n), -1, 3, 4, 10, LEAST, MOST);
        // the exception that is named first is thrown, though the pile is empty
        dueRefused("merchant of give of an empty pile", BOUNDS, (x, n) -> x.give(n, 2), -1, 2);
    }

    private static void giveOfAnEmptyPile() {
        TarotMerchants x = Check.taught("card a cost 0 worth 1; card b cost 0 worth 1; pile 2 of a; pile 0 of b; merchant m; merchant n;");
        CHECK.due("the last but one", x.give(0, 0), 1);
        CHECK.due("the last one", x.give(1, 0), 0);
        CHECK.dueRefused("an empty pile", x, () -> x.give(1, 0), STATE);
        CHECK.dueRefused("a pile of 0", x, () -> x.give(0, 1), STATE);
        x.trash(0, 0);
        CHECK.dueRefused("what is trashed is not in the pile", x, () -> x.give(0, 0), STATE);
    }

    private static TarotMerchants owning(int many) {
        TarotMerchants x = Check.taught("card a cost 0 worth 1; card b cost 0 worth 1; card c cost 0 worth 1; start 20 of a; pile 30 of a; pile 30 of b;"
            + "merchant m; merchant n;");
        for (int i = 20; i < many; i++) {
            x.give(0, i % 2);
        }
        return x;
    }

    private static void giveTo60Cards() {
        TarotMerchants x = owning(59);
        CHECK.due("the 60th card", x.give(0, 1), 10);
        CHECK.dueRefused("the 61st card", x, () -> x.give(0, 1), STATE);
        CHECK.dueRefused("no such card", x, () -> x.give(0, 3), BOUNDS);
        x.shuffle(0);
        CHECK.dueRefused("the 61st card, all in the deck", x, () -> x.give(0, 0), STATE);
        CHECK.due("to the other one", x.give(1, 1), 9);
        x.play(1);
        CHECK.dueRefused("the 61st card, in deck and discards", x, () -> x.give(0, 1), STATE);
        x.trash(0, x.discard(0, 0));
        CHECK.due("the 60th card again", x.give(0, 1), 8);
        CHECK.dueRefused("the 61st card again", x, () -> x.give(0, 1), STATE);
    }

    private static void trashOfWhatIsNot() {
        dueRefused("merchant of trash", BOUNDS, (x, n) -> x.trash(n, 0), -1, 2, 3, 4, LEAST, MOST);
        dueRefused("card of trash", BOUNDS, (x, n) -> x.trash(0, n), -1, 3, 4, 10, LEAST, MOST);
        TarotMerchants x = Check.taught("card a cost 0 worth 1; merchant m;");
        CHECK.dueRefused("no such merchant ahead of no such card there", x, () -> x.trash(1, 0), BOUNDS);
        CHECK.dueRefused("no such card", x, () -> x.trash(0, 1), BOUNDS);
        CHECK.dueRefused("none there", x, () -> x.trash(0, 0), STATE);
    }

    private static void trashWithoutSuchACard() {
        TarotMerchants x = Check.taught("card a cost 0 worth 1; card b cost 0 worth 1; start 1 of a; start 1 of b; pile 9 of a; merchant m; merchant n;");
        CHECK.due("the only one", x.trash(0, 0), 0);
        CHECK.dueRefused("none any more", x, () -> x.trash(0, 0), STATE);
        x.shuffle(0);
        CHECK.dueRefused("in the deck alone", x, () -> x.trash(0, 1), STATE);
        CHECK.due("that of another", x.trash(1, 1), 1);
        CHECK.due("trashed by m", x.merchant(0, 4), 1);
        CHECK.due("trashed by n", x.merchant(1, 4), 1);
        CHECK.due("trashed in all", x.count(6), 2);
    }

    private static void trashOfTheFirst() {
        TarotMerchants x = Check.taught("card a cost 0 worth 1; card b cost 0 worth 1; start 2 of b; start 2 of a; start 1 of b; merchant m;");
        CHECK.due("the first a", x.trash(0, 0), 2);
        CHECK.dueRow("discards", Check.discards(x, 0), 1, 1, 0, 1);
        CHECK.due("the last a", x.trash(0, 0), 2);
        CHECK.due("the first b", x.trash(0, 1), 0);
        CHECK.due("the first b", x.trash(0, 1), 0);
        CHECK.due("the last b", x.trash(0, 1), 0);
        CHECK.due("none is left", x.merchant(0, 1), 0);
        TarotMerchants y = owning(60);
        CHECK.due("the first of the last ones", y.trash(0, 1), 21);
    }

    private static void shuffleOfWhatIsNot() {
        dueRefused("shuffle", BOUNDS, TarotMerchants::shuffle, -1, 2, 3, 4, LEAST, MOST);
        TarotMerchants x = played();
        CHECK.due("shuffle(1)", x.shuffle(1), x.merchant(1, 0));
        CHECK.due("discards", x.merchant(1, 1), 0);
    }

    // ---- promises 16 and 17

    private static void playOfOneTo40Rounds() {
        dueRefused("play", ARGUMENT, TarotMerchants::play, -1, 0, 41, 42, LEAST, MOST);
        TarotMerchants x = Check.taught("card a cost 0 worth 1; pile 30 of a; merchant m; buy a for m when round = 0 or round = 39 or round = 79;");
        CHECK.due("play(1)", x.play(1), 1);
        CHECK.due("rounds", x.count(0), 1);
        CHECK.due("play(38)", x.play(38), 0);
        CHECK.due("play(40)", x.play(40), 1);
        CHECK.due("rounds", x.count(0), 79);
        CHECK.due("play(1)", x.play(1), 1);
        TarotMerchants y = Check.taught("card a cost 0 worth 1; pile 30 of a; merchant m; buy a for m when round = 39;");
        CHECK.due("39 rounds", y.foresee(39, 7), 0);
        CHECK.due("40 rounds", y.play(40), 1);
    }

    private static void playTellsWhatIsBoughtInThem() {
        TarotMerchants x = Check.taught("card a cost 0 worth 1; pile 5 of a; merchant m; merchant n; buy a for m; buy a for n;");
        x.give(0, 0);
        CHECK.due("two", x.play(1), 2);
        CHECK.due("two more", x.play(2), 2);
        CHECK.due("none is left", x.play(40), 0);
        CHECK.due("bought in all", x.count(7), 4);
        CHECK.due("by m", x.merchant(0, 5), 2);
        CHECK.due("of a", x.card(0, 6), 4);
    }

    private static void nextOfWhatIsNot() {
        dueRefused("merchant of next", BOUNDS, (x, n) -> x.next(n, 0), -1, 2, 3, 4, LEAST, MOST);
        dueRefused("what of next", BOUNDS, (x, n) -> x.next(1, n), -1, 5, 6, LEAST, MOST);
    }

    private static void nextIfItCameNow() {
        TarotMerchants x = Check.taught("card b cost 1 worth 1; card a cost 2 worth 1 coins 2 buys 1 trash b; pile 4 of a; pile 9 of b; merchant m; merchant n;"
            + "buy a for m; buy a for n; buy b for n; buy b for n;");
        x.give(0, 1);
        for (int card : new int[] {1, 0, 1}) {
            x.give(1, card);
            x.shuffle(1);
        }
        // n draws a, b, a; the coins and buys are those ahead of the three orders, for which the piles suffice
        int[] want = {4, 3, 2, 1, 3};
        for (int what = 0; what <= 4; what++) {
            CHECK.due("next(1, " + what + ")", x.next(1, what), want[what]);
        }
        CHECK.due("m buys the last a", x.next(0, 4), 1);
        CHECK.due("the round of both", x.play(1), 3);
        CHECK.due("behind the turn of m there is no a for n", x.merchant(1, 5), 2);
    }

    // ---- promises 18 to 20

    private static void foreseeOfWhatIsNot() {
        dueRefused("rounds of foresee", ARGUMENT, (x, n) -> x.foresee(n, 0), -1, 0, 41, 42, LEAST, MOST);
        dueRefused("what of foresee", BOUNDS, (x, n) -> x.foresee(1, n), -1, 1, 2, 3, 8, 9, LEAST, MOST);
        dueRefused("what of foresee", BOUNDS, (x, n) -> x.foresee(40, n), -1, 1, 2, 3, 8, 9, LEAST, MOST);
        // the exception that is named first is thrown
        dueRefused("rounds of foresee, and what", ARGUMENT, (x, n) -> x.foresee(n, 3), 0, 41);
        dueRefused("rounds of foresee, and what", ARGUMENT, (x, n) -> x.foresee(n, -1), 0, 41);
    }

    private static void foreseeOf1To40Rounds() {
        TarotMerchants x = Check.taught("card a cost 0 worth 1; pile 30 of a; merchant m; merchant n; buy a for n when round = 0; buy a for m when round >= 38;");
        CHECK.due("bought behind 1", x.foresee(1, 7), 1);
        CHECK.due("bought behind 38", x.foresee(38, 7), 1);
        CHECK.due("bought behind 39", x.foresee(39, 7), 2);
        CHECK.due("bought behind 40", x.foresee(40, 7), 3);
        CHECK.due("leader behind 1", x.foresee(1, 0), 1);
        CHECK.due("leader behind 39", x.foresee(39, 0), 0);
        CHECK.due("piles behind 40", x.foresee(40, 4), 27);
        CHECK.due("owned behind 40", x.foresee(40, 5), 3);
        CHECK.due("trashed behind 40", x.foresee(40, 6), 0);
    }

    private static void foreseeWithoutMerchants() {
        TarotMerchants x = Check.taught("card a cost 0 worth 1; pile 30 of a;");
        CHECK.due("leader", x.foresee(40, 0), -1);
        CHECK.due("piles", x.foresee(40, 4), 30);
        CHECK.due("owned", x.foresee(40, 5), 0);
        CHECK.due("rounds", x.count(0), 0);
    }

    private static void missedOfWhatIsNot() {
        dueRefused("merchant of missed", BOUNDS, (x, n) -> x.missed(n, 1), -1, 2, 3, 4, LEAST, MOST);
        dueRefused("rounds of missed", ARGUMENT, (x, n) -> x.missed(1, n), -1, 0, 21, 22, 40, LEAST, MOST);
        dueRefused("merchant of missed, and rounds", BOUNDS, (x, n) -> x.missed(n, 0), -1, 2);
        dueRefused("merchant of missed, and rounds", BOUNDS, (x, n) -> x.missed(n, 21), -1, 2);
        // of a merchant without orders as well
        TarotMerchants x = Check.taught("merchant m;");
        CHECK.dueRefused("rounds of missed without orders", x, () -> x.missed(0, 21), ARGUMENT);
    }

    private static void missedOf1To20Rounds() {
        TarotMerchants x = Check.taught("card a cost 0 worth 1; card b cost 0 worth 2; card c cost 0 worth 3; pile 30 of a; pile 1 of b; pile 1 of c; merchant m;"
            + "buy a for m when round = 0; buy b for m when round = 18; buy c for m when round = 19;");
        CHECK.due("1 round", x.missed(0, 1), 0);
        CHECK.due("18 rounds", x.missed(0, 18), 0);
        CHECK.due("19 rounds", x.missed(0, 19), 1);
        CHECK.due("20 rounds", x.missed(0, 20), 2);
    }

    private static void missedWithoutOrders() {
        String cards = "card a cost 0 worth 1; pile 30 of a; merchant m; merchant n;";
        CHECK.due("without orders", Check.taught(cards).missed(0, 20), -1);
        CHECK.due("all are of another", Check.taught(cards + "buy a for n; buy a for n;").missed(0, 20), -1);
        CHECK.due("the last of 16", Check.taught(cards + Check.repeat("buy a for n;", 15) + "buy a for m;").missed(0, 20), 15);
        CHECK.due("one that never buys", Check.taught(cards + "buy a for n; buy a for m when 1 = 2;").missed(0, 1), 1);
    }

    private static void missedOfSeveral() {
        String cards = "card a cost 0 worth 1; card b cost 0 worth 2; card c cost 0 worth 0; pile 30 of a; pile 30 of b; pile 30 of c; merchant m; merchant n;";
        CHECK.due("as little worth: the smallest number", Check.taught(cards + "buy a for n; buy a for m when round = 0; buy a for m when round = 1;").missed(0, 2), 1);
        CHECK.due("no worth at all", Check.taught(cards + "buy a for n; buy c for m; buy c for m;").missed(0, 2), 1);
        CHECK.due("the least worth is at last", Check.taught(cards + "buy c for m when round = 2; buy a for m when round = 0; buy b for m when round = 1;").missed(0, 3), 2);
        // an order in whose place a better one comes is missed the least
        CHECK.due("better without it", Check.taught(cards + "buy c for m; buy b for m;").missed(0, 2), 1);
    }

    private static void adviseOfWhatIsNot() {
        dueRefused("merchant of advise", BOUNDS, (x, n) -> x.advise(n, 1), -1, 2, 3, 4, LEAST, MOST);
        dueRefused("rounds of advise", ARGUMENT, (x, n) -> x.advise(1, n), -1, 0, 21, 22, 40, LEAST, MOST);
        dueRefused("merchant of advise, and rounds", BOUNDS, (x, n) -> x.advise(n, 0), -1, 2);
        dueRefused("merchant of advise, and rounds", BOUNDS, (x, n) -> x.advise(n, 21), -1, 2);
        TarotMerchants x = Check.taught("merchant m;");
        CHECK.dueRefused("rounds of advise without cards", x, () -> x.advise(0, 21), ARGUMENT);
    }

    private static void adviseOf1To20Rounds() {
        // a is worth nothing, but brings the coin that each b takes; c is worth more than one b
        TarotMerchants y = Check.taught("card a cost 99 worth 0 coins 1; card b cost 1 worth 5; card c cost 99 worth 6; pile 1 of a; pile 9 of b; pile 1 of c;"
            + "merchant m; buy b for m when round = 19; buy b for m when round = 0; buy b for m when round = 18;");
        CHECK.due("1 round: 5 of a and b, 6 of c", y.advise(0, 1), 2);
        CHECK.due("18 rounds", y.advise(0, 18), 2);
        CHECK.due("19 rounds: 10 of a and b", y.advise(0, 19), 0);
        TarotMerchants z = Check.taught("card a cost 99 worth 0 coins 1; card b cost 1 worth 5; card c cost 99 worth 6; pile 1 of a; pile 9 of b; pile 1 of c;"
            + "merchant m; buy b for m when round = 19; buy b for m when round = 0;");
        CHECK.due("19 rounds", z.advise(0, 19), 2);
        CHECK.due("20 rounds", z.advise(0, 20), 0);
    }

    private static void adviseWithoutACard() {
        CHECK.due("without cards", Check.taught("merchant m;").advise(0, 20), -1);
        CHECK.due("without piles", Check.taught("card a cost 0 worth 9; pile 0 of a; start 1 of a; merchant m;").advise(0, 1), -1);
        TarotMerchants x = owning(60);
        CHECK.due("owning 60", x.advise(0, 1), -1);
        CHECK.due("the other one", x.advise(1, 1), 0);
        CHECK.due("owning 59", owning(59).advise(0, 1), 0);
        TarotMerchants y = Check.taught("card a cost 0 worth 9; card b cost 0 worth 0; pile 1 of a; pile 1 of b; merchant m;");
        y.give(0, 0);
        CHECK.due("the only one that is left, worth 0", y.advise(0, 1), 1);
        y.give(0, 1);
        CHECK.due("none is left", y.advise(0, 1), -1);
    }

    private static void adviseOfSeveral() {
        String cards = "card a cost 0 worth 1; card b cost 0 worth 2; card c cost 0 worth 2; card d cost 0 worth 1; merchant m; merchant n;";
        CHECK.due("as much worth: the smallest number", Check.taught(cards + "pile 9 of a; pile 9 of b; pile 9 of c; pile 9 of d;").advise(0, 1), 1);
        CHECK.due("b has none", Check.taught(cards + "pile 9 of a; pile 9 of c; pile 9 of d;").advise(0, 1), 2);
        CHECK.due("all are worth as much", Check.taught(cards + "pile 9 of a; pile 9 of d;").advise(0, 1), 0);
        // the card that is given is one less in the pile: without a d there one of a is bought in each round
        TarotMerchants x = Check.taught(cards + "pile 9 of a; pile 1 of c; pile 1 of d; buy a for m when left d = 0;");
        CHECK.due("c for one round, of two that bring 2", x.advise(0, 1), 2);
        CHECK.due("d for two rounds: 1 and 2 more", x.advise(0, 2), 3);
    }

    // ---- promises 21 and 22, and all of them

    private static void meanWithoutMerchants() {
        CHECK.dueNumber("a new object", new TarotMerchants().mean(), 0.0);
        CHECK.dueNumber("cards alone", Check.taught("card a cost 1 worth 9; start 9 of a; pile 9 of a;").mean(), 0.0);
        CHECK.dueNumber("a merchant without cards", Check.taught("card a cost 1 worth 9; pile 9 of a; merchant m;").mean(), 0.0);
        TarotMerchants x = Check.taught("card a cost 0 worth 99; pile 30 of a; start 20 of a; merchant m; merchant n; merchant o;");
        CHECK.dueNumber("a whole number", x.mean(), 1980.0);
        x.give(2, 0);
        CHECK.dueNumber("6039 by 3", x.mean(), 2013.0);
        TarotMerchants y = Check.taught("card a cost 0 worth 1; pile 30 of a; merchant m; merchant n; merchant o; merchant p;");
        y.give(0, 0);
        CHECK.dueNumber("1 by 4 is not cut", y.mean(), 0.25);
        TarotMerchants z = Check.taught("card a cost 0 worth 1; pile 30 of a; merchant m; merchant n; merchant o;");
        z.give(0, 0);
        z.give(0, 0);
        CHECK.dueNumber("2 by 3", z.mean(), 2.0 / 3.0);
    }

    private static void digestWrapsAround() {
        CHECK.due("a new object", new TarotMerchants().digest(), 22711635436016389L);
        java.math.BigInteger d = java.math.BigInteger.valueOf(859);
        for (int x : new int[] {0, 1, 1, 0, 30, 2, 0, 0, 0, 5, 9, 1, 30, 2, 0, 0, 0, 2, 1, 18, 0, 0, 0, 0, 0, 0}) {
            d = d.multiply(java.math.BigInteger.valueOf(31)).add(java.math.BigInteger.valueOf(x));
        }
        CHECK.due("a card and a merchant", Check.taught("card a cost 5 worth 9 coins 1; start 2 of a; pile 30 of a; merchant m;").digest(), d.longValue());
        TarotMerchants x = Check.taught("card a cost 5 worth 9 coins 1; start 2 of a; pile 30 of a; merchant m;");
        x.feed(0, 0, 0, 0, 0);
        CHECK.due("the tape is counted", x.digest() == d.longValue() ? 1 : 0, 0);
        x.trim(0);
        CHECK.due("and nothing else of it", x.digest(), d.longValue());
    }

    private static void whatIsForeseenChangesNothing() {
        TarotMerchants x = played();
        long before = x.digest();
        for (int what = 0; what <= 4; what++) {
            x.next(0, what);
            x.next(1, what);
        }
        CHECK.due("next", x.digest(), before);
        for (int what : new int[] {0, 4, 5, 6, 7}) {
            x.foresee(40, what);
        }
        CHECK.due("foresee", x.digest(), before);
        x.missed(0, 20);
        x.missed(1, 20);
        CHECK.due("missed", x.digest(), before);
        x.advise(0, 20);
        x.advise(1, 20);
        CHECK.due("advise", x.digest(), before);
        x.leader();
        x.mean();
        CHECK.due("errorAt", x.errorAt(), 21);
        CHECK.due("the rest", x.digest(), before);
        TarotMerchants y = played();
        y.play(9);
        x.play(9);
        CHECK.due("the play goes on as without them", x.digest(), y.digest());
        CHECK.due("the tape as well", x.teach(), 0);
        CHECK.due("merchant z", x.count(2), 1);
    }

    private static void refusedCallsLeaveThePlay() {
        TarotMerchants x = played();
        TarotMerchants y = played();
        for (int round = 0; round < 5; round++) {
            CHECK.dueIllegalArgument("play", () -> x.play(41));
            CHECK.dueIllegalState("give", () -> x.give(0, 2));
            CHECK.dueOutOfBounds("give", () -> x.give(2, 0));
            CHECK.dueOutOfBounds("trash", () -> x.trash(0, 3));
            CHECK.dueOutOfBounds("shuffle", () -> x.shuffle(2));
            CHECK.dueIllegalArgument("trim", () -> x.trim(12));
            CHECK.dueOutOfBounds("next", () -> x.next(0, 5));
            CHECK.dueOutOfBounds("foresee", () -> x.foresee(40, 8));
            CHECK.dueIllegalArgument("missed", () -> x.missed(0, 21));
            CHECK.dueIllegalArgument("advise", () -> x.advise(0, 21));
            CHECK.due("the play goes on as without them", x.play(3), y.play(3));
            CHECK.due("all is as without them", x.digest(), y.digest());
        }
    }
}
