/** Promises 6 to 15: what there is, and what is done by hand. */
public final class MarketTest {
    private static final Check CHECK = new Check("MarketTest");
    private static final String FIVE = "card a cost 0 worth 1 coins 1; card b cost 2 worth 3 trash a draws 1; card c cost 3 worth 0;"
        + "card d cost 4 worth 5 buys 1 combo a 1 coins 2 draws 1; card e cost 99 worth 99;\n"
        + "start 1 of a; start 1 of b; start 1 of c; start 1 of d; start 1 of e;\n"
        + "pile 2 of a; pile 30 of b; pile 1 of c; pile 3 of a; merchant m; merchant n; buy b for n when 1 = 2;";

    public static void main(String[] args) {
        count();
        card();
        merchant();
        starts();
        places();
        leader();
        give();
        giveUpToSixty();
        trash();
        shuffle();
        wrongNumbers();
        CHECK.end();
    }

    private static int[] counts(TarotMerchants x) {
        int[] row = new int[9];
        for (int what = 0; what < 9; what++) {
            row[what] = x.count(what);
        }
        return row;
    }

    private static int[] cardRow(TarotMerchants x, int card) {
        int[] row = new int[7];
        for (int what = 0; what < 7; what++) {
            row[what] = x.card(card, what);
        }
        return row;
    }

    private static int[] merchantRow(TarotMerchants x, int merchant) {
        int[] row = new int[8];
        for (int what = 0; what < 8; what++) {
            row[what] = x.merchant(merchant, what);
        }
        return row;
    }

    private static void count() {
        TarotMerchants x = Check.taught(FIVE);
        CHECK.dueRow("count", counts(x), 0, 5, 2, 1, 34, 10, 0, 0, 0);
        x.give(1, 1);
        x.trash(0, 4);
        x.trash(0, 3);
        x.feed(0, 0, 0, 0, 0);
        CHECK.dueRow("count", counts(x), 0, 5, 2, 1, 33, 9, 2, 0, 20);
        TarotMerchants y = Check.taught("card a cost 1 worth 1 coins 1 trash a; start 5 of a; pile 9 of a;"
            + "merchant m; merchant n; buy a for m; buy a for m; buy a for n;");
        // three of the five cards of each are played, the other two trashed, and one is bought
        y.play(1);
        CHECK.dueRow("count behind a round", counts(y), 1, 1, 2, 3, 7, 8, 4, 2, 0);
        CHECK.dueOutOfBounds("count(-1)", () -> x.count(-1));
        CHECK.dueOutOfBounds("count(9)", () -> x.count(9));
    }

    private static void card() {
        TarotMerchants x = Check.taught(FIVE);
        CHECK.dueRow("card a", cardRow(x, 0), 0, 1, 1, 3, 2, 0, 0);
        CHECK.dueRow("card b", cardRow(x, 1), 2, 3, 2, 30, 2, 0, 0);
        CHECK.dueRow("card c", cardRow(x, 2), 3, 0, 0, 1, 2, 0, 0);
        CHECK.dueRow("card d", cardRow(x, 3), 4, 5, 4, 0, 2, 0, 0);
        CHECK.dueRow("card e", cardRow(x, 4), 99, 99, 0, 0, 2, 0, 0);
        x.give(0, 0);
        x.trash(1, 0);
        x.trash(1, 4);
        CHECK.dueRow("card a", cardRow(x, 0), 0, 1, 1, 2, 2, 0, 0);
        CHECK.dueRow("card e", cardRow(x, 4), 99, 99, 0, 0, 1, 0, 0);
        TarotMerchants y = Check.taught("card a cost 1 worth 1 coins 1; start 6 of a; pile 9 of a;"
            + "merchant m; merchant n; buy a for m; buy a for n;");
        y.play(2);
        CHECK.dueRow("card a behind two rounds", cardRow(y, 0), 1, 1, 1, 5, 16, 20, 4);
        y.next(0, 0);
        y.foresee(5, 0);
        y.missed(0, 5);
        y.advise(0, 5);
        CHECK.dueRow("what would be is not counted", cardRow(y, 0), 1, 1, 1, 5, 16, 20, 4);
    }

    private static void merchant() {
        TarotMerchants x = Check.taught(FIVE + "merchant o; merchant p;");
        CHECK.dueRow("merchant m", merchantRow(x, 0), 0, 5, 1, 108, 0, 0, 0, 0);
        CHECK.dueRow("merchant n", merchantRow(x, 1), 0, 5, 8, 108, 0, 0, 0, 0);
        CHECK.dueRow("merchant o", merchantRow(x, 2), 0, 5, 15, 108, 0, 0, 0, 0);
        CHECK.dueRow("merchant p", merchantRow(x, 3), 0, 5, 22, 108, 0, 0, 0, 0);
        x.trash(0, 4);
        x.give(0, 0);
        CHECK.dueRow("merchant m", merchantRow(x, 0), 0, 5, 1, 10, 1, 0, 0, 0);
        TarotMerchants y = Check.taught("card a cost 2 worth 1 coins 1; start 5 of a; pile 9 of a; merchant m; buy a for m;");
        // the seed goes on four times: 264, 994, 986, 463
        y.play(1);
        CHECK.dueRow("merchant m", merchantRow(y, 0), 0, 6, 463, 6, 0, 1, 5, 1);
    }

    private static void starts() {
        TarotMerchants x = Check.taught("card a cost 1 worth 1; card b cost 1 worth 1; merchant m; start 2 of b; start 1 of a;"
            + "start 3 of b; merchant n;");
        CHECK.dueRow("discards of m", Check.discards(x, 0), 1, 1, 0, 1, 1, 1);
        CHECK.dueRow("discards of n", Check.discards(x, 1), 1, 1, 0, 1, 1, 1);
        CHECK.dueRow("deck of m", Check.deck(x, 0));
        TarotMerchants y = Check.taught("card a cost 0 worth 1; merchant m; card b cost 0 worth 2; buy b for m; pile 9 of b; pile 7 of a; start 1 of a;"
            + "pile 8 of b;");
        CHECK.due("the latest line of pile", y.card(1, 3), 8);
        CHECK.due("the line of pile", y.card(0, 3), 7);
        CHECK.due("lines behind an order leave it", y.play(1) + y.card(1, 6), 2);
        CHECK.due("owns a", x.owns(0, 0), 1);
        CHECK.due("owns b", x.owns(1, 1), 5);
    }

    private static void places() {
        TarotMerchants x = Check.taught(FIVE);
        x.shuffle(0);
        x.give(0, 1);
        CHECK.due("deck(0, 4)", x.deck(0, 4), 4);
        CHECK.dueOutOfBounds("deck(0, 5)", () -> x.deck(0, 5));
        CHECK.dueOutOfBounds("deck(0, -1)", () -> x.deck(0, -1));
        CHECK.dueOutOfBounds("deck(1, 0)", () -> x.deck(1, 0));
        CHECK.due("discard(0, 0)", x.discard(0, 0), 1);
        CHECK.dueOutOfBounds("discard(0, 1)", () -> x.discard(0, 1));
        CHECK.dueOutOfBounds("discard(0, -1)", () -> x.discard(0, -1));
        CHECK.due("owns(0, 1), in deck and discards", x.owns(0, 1), 2);
    }

    private static void leader() {
        TarotMerchants x = Check.taught("card a cost 0 worth 2; card b cost 0 worth 1; card z cost 0 worth 0; start 1 of a; start 2 of z;"
            + "pile 9 of a; pile 9 of b; pile 9 of z; merchant m; merchant n; merchant o;");
        CHECK.due("the first of equal ones", x.leader(), 0);
        x.give(2, 1);
        CHECK.due("who has more worth", x.leader(), 2);
        x.give(1, 1);
        CHECK.due("the first of equal ones", x.leader(), 1);
        x.give(1, 2);
        CHECK.due("who owns the fewest", x.leader(), 2);
        x.trash(1, 2);
        CHECK.due("the first of equal ones", x.leader(), 1);
        x.trash(1, 2);
        x.give(2, 0);
        CHECK.due("worth is ahead of owning few", x.leader(), 2);
        CHECK.due("without merchants", Check.taught("card a cost 1 worth 1;").leader(), -1);
    }

    private static void give() {
        TarotMerchants x = Check.taught(FIVE);
        CHECK.due("give", x.give(1, 0), 2);
        CHECK.due("give", x.give(0, 0), 1);
        CHECK.due("give", x.give(1, 2), 0);
        CHECK.due("not bought", x.count(7) + x.card(0, 6) + x.merchant(1, 5), 0);
        CHECK.dueRow("discards", Check.discards(x, 1), 0, 1, 2, 3, 4, 0, 2);
        CHECK.due("owns", x.owns(1, 0), 2);
        long before = x.digest();
        CHECK.dueIllegalState("an empty pile", () -> x.give(1, 2));
        CHECK.dueIllegalState("no pile", () -> x.give(0, 4));
        CHECK.dueOutOfBounds("no such merchant, and a card with an empty pile", () -> x.give(2, 4));
        CHECK.due("nothing is changed", x.digest(), before);
    }

    private static void giveUpToSixty() {
        TarotMerchants x = Check.taught("card a cost 0 worth 1; card b cost 0 worth 1; start 20 of a; pile 30 of a; pile 30 of b; merchant m;"
            + "buy a for m;");
        for (int i = 0; i < 30; i++) {
            x.give(0, 0);
        }
        for (int i = 0; i < 9; i++) {
            x.give(0, 1);
        }
        CHECK.due("the 60th card", x.give(0, 1), 20);
        CHECK.dueIllegalState("the 61st card", () -> x.give(0, 1));
        CHECK.due("owned", x.count(5), 60);
        CHECK.due("none is bought either", x.play(1), 0);
        CHECK.due("shuffled", x.merchant(0, 0) + x.merchant(0, 1), 60);
        x.trash(0, x.discard(0, 0));
        CHECK.due("one of b is given or none of a", x.give(0, 1), 19);
    }

    private static void trash() {
        TarotMerchants x = Check.taught("card a cost 1 worth 1; card b cost 1 worth 1; card c cost 1 worth 1; start 2 of b; start 1 of a;"
            + "start 1 of b; pile 5 of c; merchant m; merchant n;");
        CHECK.due("trash a", x.trash(0, 0), 2);
        CHECK.dueRow("discards", Check.discards(x, 0), 1, 1, 1);
        CHECK.due("trash b", x.trash(0, 1), 0);
        CHECK.dueRow("discards", Check.discards(x, 0), 1, 1);
        CHECK.due("counted", x.merchant(0, 4), 2);
        CHECK.due("not of the other", x.merchant(1, 4), 0);
        CHECK.due("owned by nobody", x.card(0, 4) + x.count(4), 6);
        long before = x.digest();
        CHECK.dueIllegalState("there is no a", () -> x.trash(0, 0));
        CHECK.dueIllegalState("there never was a c", () -> x.trash(0, 2));
        CHECK.dueOutOfBounds("no such card", () -> x.trash(0, 3));
        CHECK.due("nothing is changed", x.digest(), before);
        x.shuffle(0);
        CHECK.dueIllegalState("b is in the deck alone", () -> x.trash(0, 1));
        CHECK.due("owns b", x.owns(0, 1), 2);
    }

    private static void shuffle() {
        TarotMerchants x = Check.taught(FIVE);
        // seeds 264, 994, 986, 463: places 4 with 4, 3 with 2, 2 with 2, 1 with 1
        CHECK.due("shuffle", x.shuffle(0), 5);
        CHECK.dueRow("deck", Check.deck(x, 0), 0, 1, 3, 2, 4);
        CHECK.dueRow("merchant", merchantRow(x, 0), 5, 0, 463, 108, 0, 0, 0, 1);
        x.give(0, 0);
        x.give(0, 1);
        // seed 603: place 1 with 1
        CHECK.due("shuffle", x.shuffle(0), 7);
        CHECK.dueRow("put under the deck", Check.deck(x, 0), 0, 1, 3, 2, 4, 0, 1);
        CHECK.due("seed", x.merchant(0, 2), 603);
        x.give(0, 2);
        CHECK.due("shuffle of one card", x.shuffle(0), 8);
        CHECK.due("place 7", x.deck(0, 7), 2);
        CHECK.due("seed", x.merchant(0, 2), 603);
        CHECK.due("shuffles", x.merchant(0, 7), 3);
        CHECK.due("shuffle of none", x.shuffle(0), 8);
        CHECK.due("shuffles", x.merchant(0, 7), 3);
        CHECK.due("the other one", x.merchant(1, 1), 5);
        // five cards are drawn from the top, b, d and the second b draw one each, and there is nothing to trash
        x.play(1);
        CHECK.dueRow("deck", Check.deck(x, 0));
        CHECK.dueRow("discards", Check.discards(x, 0), 0, 1, 3, 2, 4, 0, 1, 2);
        CHECK.due("shuffles", x.merchant(0, 7), 3);
    }

    private static void wrongNumbers() {
        TarotMerchants x = Check.taught(FIVE);
        int[] wrong = {Integer.MIN_VALUE, -1, 5, 1000, Integer.MAX_VALUE};
        for (int n : wrong) {
            CHECK.dueOutOfBounds("card(" + n + ", 0)", () -> x.card(n, 0));
            CHECK.dueOutOfBounds("merchant(" + n + ", 0)", () -> x.merchant(n, 0));
            CHECK.dueOutOfBounds("owns(" + n + ", 0)", () -> x.owns(n, 0));
            CHECK.dueOutOfBounds("owns(0, " + n + ")", () -> x.owns(0, n));
            CHECK.dueOutOfBounds("deck(" + n + ", 0)", () -> x.deck(n, 0));
            CHECK.dueOutOfBounds("deck(0, " + n + ")", () -> x.deck(0, n));
            CHECK.dueOutOfBounds("discard(" + n + ", 0)", () -> x.discard(n, 0));
            CHECK.dueOutOfBounds("discard(0, " + n + ")", () -> x.discard(0, n));
            CHECK.dueOutOfBounds("give(" + n + ", 0)", () -> x.give(n, 0));
            CHECK.dueOutOfBounds("give(0, " + n + ")", () -> x.give(0, n));
            CHECK.dueOutOfBounds("trash(" + n + ", 0)", () -> x.trash(n, 0));
            CHECK.dueOutOfBounds("trash(0, " + n + ")", () -> x.trash(0, n));
            CHECK.dueOutOfBounds("shuffle(" + n + ")", () -> x.shuffle(n));
        }
        CHECK.dueOutOfBounds("card(0, 7)", () -> x.card(0, 7));
        CHECK.dueOutOfBounds("card(0, -1)", () -> x.card(0, -1));
        CHECK.dueOutOfBounds("merchant(0, 8)", () -> x.merchant(0, 8));
        CHECK.dueOutOfBounds("merchant(0, -1)", () -> x.merchant(0, -1));
        CHECK.dueOutOfBounds("merchant(2, 0)", () -> x.merchant(2, 0));
        CHECK.dueOutOfBounds("owns(2, 0)", () -> x.owns(2, 0));
        CHECK.dueOutOfBounds("shuffle(2)", () -> x.shuffle(2));
        CHECK.dueOutOfBounds("give(2, 0)", () -> x.give(2, 0));
        CHECK.dueOutOfBounds("trash(2, 0)", () -> x.trash(2, 0));
        CHECK.due("nothing is changed", x.digest(), Check.taught(FIVE).digest());
    }
}
