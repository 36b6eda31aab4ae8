/** Promises 18 to 22: foresee, missed, advise, mean and digest. */
public final class ForesightTest {
    private static final Check CHECK = new Check("ForesightTest");
    private static final String LIST = "card a cost 0 worth 1 coins 1; card b cost 3 worth 5; card c cost 0 worth 0; start 5 of a;"
        + "pile 9 of a; pile 30 of b; pile 30 of c; merchant m; merchant n; buy b for m; buy c for n; buy c for m;";

    public static void main(String[] args) {
        foresee();
        foreseenLeader();
        missed();
        missedIsNotBought();
        advise();
        adviseOfWhatCanBeGiven();
        mean();
        digest();
        CHECK.end();
    }

    private static void foresee() {
        TarotMerchants x = Check.taught(LIST);
        x.trash(1, 0);
        long before = x.digest();
        CHECK.due("cards in piles", x.foresee(1, 4), 67);
        CHECK.due("owned", x.foresee(1, 5), 11);
        CHECK.due("trashed", x.foresee(1, 6), 1);
        CHECK.due("bought", x.foresee(1, 7), 2);
        CHECK.due("bought behind 2", x.foresee(2, 7), 4);
        for (int rounds = 1; rounds <= 40; rounds += 13) {
            TarotMerchants played = Check.taught(LIST);
            played.trash(1, 0);
            played.play(rounds);
            for (int what = 4; what <= 7; what++) {
                CHECK.due("foresee(" + rounds + ", " + what + ")", x.foresee(rounds, what), played.count(what));
            }
            CHECK.due("foresee(" + rounds + ", 0)", x.foresee(rounds, 0), played.leader());
        }
        for (int rounds : new int[] {0, -1, 41, Integer.MAX_VALUE, Integer.MIN_VALUE}) {
            CHECK.dueIllegalArgument("foresee(" + rounds + ", 4)", () -> x.foresee(rounds, 4));
            CHECK.dueIllegalArgument("foresee(" + rounds + ", 9)", () -> x.foresee(rounds, 9));
        }
        for (int what : new int[] {-1, 1, 2, 3, 8, Integer.MAX_VALUE, Integer.MIN_VALUE}) {
            CHECK.dueOutOfBounds("foresee(1, " + what + ")", () -> x.foresee(1, what));
        }
        CHECK.due("nothing is changed", x.digest(), before);
        CHECK.due("of an empty market", new TarotMerchants().foresee(3, 5), 0);
    }

    private static void foreseenLeader() {
        TarotMerchants x = Check.taught("card a cost 0 worth 1; pile 9 of a; merchant m; merchant n; buy a for n when round > 0;");
        CHECK.due("now", x.leader(), 0);
        CHECK.due("behind one round", x.foresee(1, 0), 0);
        CHECK.due("behind two", x.foresee(2, 0), 1);
        CHECK.due("now", x.leader(), 0);
        CHECK.due("without merchants", new TarotMerchants().foresee(1, 0), -1);
    }

    private static void missed() {
        TarotMerchants x = Check.taught(LIST);
        long before = x.digest();
        CHECK.due("missed(0, 1)", x.missed(0, 1), 0);
        CHECK.due("missed(1, 1)", x.missed(1, 1), 1);
        CHECK.due("missed(0, 20)", x.missed(0, 20), 0);
        CHECK.dueOutOfBounds("missed(2, 1)", () -> x.missed(2, 1));
        CHECK.dueOutOfBounds("missed(-1, 0)", () -> x.missed(-1, 0));
        CHECK.dueIllegalArgument("missed(0, 0)", () -> x.missed(0, 0));
        CHECK.dueIllegalArgument("missed(0, 21)", () -> x.missed(0, 21));
        CHECK.due("nothing is changed", x.digest(), before);
        String cards = "card a cost 0 worth 1; card b cost 0 worth 1; pile 30 of a; pile 30 of b; merchant m; merchant n; ";
        CHECK.due("of several the smallest", Check.taught(cards + "buy a for n; buy a for m; buy b for m; buy a for m;").missed(0, 2), 1);
        CHECK.due("without an order of this one", Check.taught(cards + "buy a for n;").missed(0, 2), -1);
        CHECK.due("without orders", Check.taught(cards).missed(1, 2), -1);
    }

    private static void missedIsNotBought() {
        // without order 0 order 1 buys z of worth 9; without order 1 a is bought, of worth 1
        TarotMerchants x = Check.taught("card a cost 0 worth 1; card z cost 0 worth 9; pile 30 of a; pile 30 of z; merchant m;"
            + "buy a for m; buy z for m;");
        CHECK.due("missed", x.missed(0, 3), 1);
        // the orders of others are looked at all the while: n takes the only z if m does not
        TarotMerchants y = Check.taught("card a cost 0 worth 1; card z cost 0 worth 9; pile 30 of a; pile 1 of z; merchant m; merchant n;"
            + "buy a for m when round = 1; buy z for m; buy z for n;");
        CHECK.due("missed", y.missed(0, 4), 1);
        CHECK.due("missed by n", y.missed(1, 4), 2);
    }

    private static void advise() {
        // a buys nothing by itself, but brings the coin that b costs: 2 more turns are 2 b
        TarotMerchants x = Check.taught("card a cost 9 worth 0 coins 1; card b cost 1 worth 5; card c cost 9 worth 7; pile 1 of a; pile 30 of b;"
            + "pile 1 of c; merchant m; merchant n; buy b for m;");
        long before = x.digest();
        CHECK.due("for one round", x.advise(0, 1), 2);
        CHECK.due("for two rounds", x.advise(0, 2), 0);
        CHECK.due("for n", x.advise(1, 20), 2);
        CHECK.dueOutOfBounds("advise(2, 1)", () -> x.advise(2, 1));
        CHECK.dueOutOfBounds("advise(-1, 0)", () -> x.advise(-1, 0));
        CHECK.dueIllegalArgument("advise(0, 0)", () -> x.advise(0, 0));
        CHECK.dueIllegalArgument("advise(0, 21)", () -> x.advise(0, 21));
        CHECK.due("nothing is changed", x.digest(), before);
    }

    private static void adviseOfWhatCanBeGiven() {
        TarotMerchants x = Check.taught("card a cost 0 worth 9; card b cost 0 worth 2; card c cost 0 worth 2; card d cost 0 worth 1; pile 1 of b;"
            + "pile 1 of c; pile 1 of d; merchant m;");
        CHECK.due("of several the smallest, none of an empty pile", x.advise(0, 1), 1);
        x.give(0, 1);
        CHECK.due("the next", x.advise(0, 1), 2);
        x.give(0, 2);
        CHECK.due("the last", x.advise(0, 1), 3);
        x.give(0, 3);
        CHECK.due("none", x.advise(0, 1), -1);
        CHECK.due("without cards", Check.taught("merchant m;").advise(0, 1), -1);
        TarotMerchants y = Check.taught("card a cost 0 worth 0; card b cost 0 worth 0; start 20 of a; pile 30 of a; pile 30 of b; merchant m;");
        CHECK.due("worth nothing is something", y.advise(0, 1), 0);
        for (int i = 0; i < 40; i++) {
            y.give(0, i < 30 ? 0 : 1);
        }
        CHECK.due("of 60 cards", y.advise(0, 1), -1);
        y.trash(0, 0);
        CHECK.due("of 59 cards", y.advise(0, 1), 1);
    }

    private static void mean() {
        CHECK.dueNumber("without merchants", new TarotMerchants().mean(), 0);
        TarotMerchants x = Check.taught("card a cost 0 worth 2; card b cost 0 worth 1; start 1 of a; pile 9 of b; merchant m; merchant n; merchant o;");
        CHECK.dueNumber("2, 2, 2", x.mean(), 2);
        x.give(1, 1);
        CHECK.dueNumber("2, 3, 2", x.mean(), 7.0 / 3);
        x.shuffle(1);
        CHECK.dueNumber("2, 3, 2, in the deck too", x.mean(), 7.0 / 3);
        CHECK.dueNumber("without cards", Check.taught("merchant m;").mean(), 0);
    }

    private static void digest() {
        CHECK.due("of a new object: 859 * 31 to the 9th", new TarotMerchants().digest(), 22711635436016389L);
        TarotMerchants x = Check.taught(LIST);
        x.play(1);
        x.shuffle(0);
        x.give(0, 2);
        x.trash(1, 0);
        x.feed(1, 2, 3, 4, 5);
        // m has six cards in the deck and one among the discards; n had six discards, of which one is trashed
        int[] numbers = {1, 3, 2, 3, 66, 12, 1, 2, 20,
            0, 1, 1, 9, 9, 10, 0, 3, 5, 0, 29, 1, 0, 1, 0, 0, 0, 28, 2, 0, 1,
            6, 1, x.merchant(0, 2), 10, 0, 1, 5, 2,
            x.deck(0, 0), x.deck(0, 1), x.deck(0, 2), x.deck(0, 3), x.deck(0, 4), x.deck(0, 5), 2,
            0, 5, x.merchant(1, 2), 4, 1, 1, 5, 1, 2, 0, 0, 0, 0};
        long d = 859;
        for (int number : numbers) {
            d = d * 31 + number;
        }
        CHECK.due("of a market", x.digest(), d);
    }
}
