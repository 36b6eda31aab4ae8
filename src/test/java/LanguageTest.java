/** Promises 1 to 5: a new object, feed, trim, teach and errorAt. */
public final class LanguageTest {
    private static final Check CHECK = new Check("LanguageTest");
    private static final String CARD = "card a cost 1 worth 1";
    private static final String ORDER = "card a cost 1 worth 1; merchant m; buy a for m when ";

    public static void main(String[] args) {
        newObject();
        feed();
        trim();
        teach();
        tokens();
        grammar();
        depth();
        mostTokens();
        error2();
        error3();
        error4();
        error5();
        whichErrorFirst();
        CHECK.end();
    }

    private static void newObject() {
        TarotMerchants x = new TarotMerchants();
        for (int what = 0; what <= 8; what++) {
            CHECK.due("new: count(" + what + ")", x.count(what), 0);
        }
        CHECK.due("new: errorAt()", x.errorAt(), -1);
        CHECK.due("new: leader()", x.leader(), -1);
        CHECK.dueNumber("new: mean()", x.mean(), 0);
        CHECK.dueOutOfBounds("new: card(0, 0)", () -> x.card(0, 0));
        CHECK.dueOutOfBounds("new: merchant(0, 0)", () -> x.merchant(0, 0));
    }

    private static void feed() {
        TarotMerchants x = new TarotMerchants();
        for (int i = 1; i <= 100; i++) {
            CHECK.due("feed number " + i, x.feed(0, 0, 0, 0, 0), 20 * i);
        }
        CHECK.dueIllegalState("feed number 101", () -> x.feed(0, 0, 0, 0, 0));
        CHECK.due("bytes behind it", x.count(8), 2000);
        x.trim(1981);
        CHECK.dueIllegalState("feed behind 1981 bytes", () -> x.feed(0, 0, 0, 0, 0));
        CHECK.due("bytes behind it", x.count(8), 1981);
        x.trim(1980);
        CHECK.due("feed behind 1980 bytes", x.feed(0, 0, 0, 0, 0), 2000);

        // "merchant m;" and blanks, the highest byte of each number first
        TarotMerchants y = new TarotMerchants();
        CHECK.due("feed", y.feed(0x6d657263, 0x68616e74, 0x206d3b20, 0x20202020, 0x20200a20), 20);
        CHECK.due("teach", y.teach(), 0);
        CHECK.due("merchants", y.count(2), 1);
        // the highest byte can be above 127
        y.feed(0x20202020, 0x20202020, 0x20202020, 0x20202020, 0xff202020);
        CHECK.due("teach", y.teach(), 1);
        CHECK.due("errorAt", y.errorAt(), 16);
    }

    private static void trim() {
        TarotMerchants x = new TarotMerchants();
        CHECK.dueIllegalArgument("trim(1) of an empty tape", () -> x.trim(1));
        CHECK.dueIllegalArgument("trim(-1) of an empty tape", () -> x.trim(-1));
        CHECK.due("trim(0) of an empty tape", x.trim(0), 0);
        x.feed(0x6d657263, 0x68616e74, 0x206d3b41, 0x41414141, 0x41414141);
        CHECK.dueIllegalArgument("trim(21)", () -> x.trim(21));
        CHECK.dueIllegalArgument("trim(-1)", () -> x.trim(-1));
        CHECK.due("bytes", x.count(8), 20);
        CHECK.due("trim(20)", x.trim(20), 20);
        CHECK.due("trim(11)", x.trim(11), 11);
        CHECK.due("bytes", x.count(8), 11);
        CHECK.dueIllegalArgument("trim(12)", () -> x.trim(12));
        CHECK.due("the first bytes are kept", x.teach(), 0);
        CHECK.due("merchants", x.count(2), 1);
    }

    private static void teach() {
        TarotMerchants x = Check.taught("card a cost 1 worth 2 coins 1; start 6 of a; merchant m; pile 3 of a; buy a for m;");
        CHECK.due("the tape is empty", x.count(8), 0);
        x.play(2);
        CHECK.due("rounds", x.count(0), 2);
        long before = x.digest();
        CHECK.due("a wrong list", Check.teach(x, "merchant b; merchant b;"), 2);
        CHECK.due("errorAt", x.errorAt(), 21);
        CHECK.due("all stays", x.digest(), before);
        CHECK.due("the tape is empty", x.count(8), 0);
        CHECK.due("next list", Check.teach(x, "card z cost 1 worth 1;"), 0);
        CHECK.due("errorAt", x.errorAt(), -1);
        CHECK.due("rounds", x.count(0), 0);
        CHECK.due("cards", x.count(1), 1);
        CHECK.due("merchants", x.count(2), 0);
        CHECK.due("orders", x.count(3), 0);
        CHECK.due("piles", x.count(4), 0);
        CHECK.due("an empty list", x.teach(), 0);
        CHECK.due("cards", x.count(1), 0);

        // the same list again: all begins anew
        String list = "card a cost 1 worth 2 coins 1; start 6 of a; merchant m; pile 3 of a; buy a for m;";
        TarotMerchants y = Check.taught(list);
        long fresh = y.digest();
        y.give(0, 0);
        y.play(5);
        y.trash(0, 0);
        CHECK.due("taught again", Check.teach(y, list), 0);
        CHECK.due("all is as at first", y.digest(), fresh);

        // nothing of earlier lists is left, good or wrong
        String wide = "card b cost 9 worth 9 coins 1" + Check.repeat("*1", 150) + "; start 9 of b; pile 9 of b; merchant m; merchant n;"
            + "buy b for n when 1 = 2;";
        for (int i = 0; i < 7; i++) {
            CHECK.due("a wide list", Check.teach(y, wide), 0);
            CHECK.due("a wide and wrong list", Check.teach(y, wide + "merchant m;"), 2);
        }
        CHECK.due("its coins", y.next(1, 0), 5);
        CHECK.due("taught again", Check.teach(y, list), 0);
        CHECK.due("all is as at first", y.digest(), fresh);
        CHECK.due("its coins", y.next(0, 0), 5);
    }

    private static void tokens() {
        CHECK.dueGood("");
        CHECK.dueGood(" \n\n ");
        CHECK.dueGood("\nmerchant\nm\n;\n");
        CHECK.dueGood("merchant abcdefghij;");
        CHECK.dueErrorAt(1, "merchant @abcdefghijk;");
        CHECK.dueGood("merchant a234567890;");
        CHECK.dueErrorAt(1, "merchant @a2345678901;");
        CHECK.dueGood("card a cost 000001 worth 000002;");
        CHECK.dueErrorAt(1, "card a cost @0000001 worth 2;");
        CHECK.dueGood("card a cost 1worth 2coins 999999;");
        CHECK.dueErrorAt(1, "card a cost 1 worth 2 coins @1000000;");
        CHECK.dueErrorAt(1, "@merchants m;");
        CHECK.dueErrorAt(1, "merchant @Abc;");
        CHECK.dueErrorAt(1, "merchant a@B;");
        CHECK.dueErrorAt(1, "@\tmerchant m;");
        CHECK.dueErrorAt(1, "merchant m;@\r");
        CHECK.dueErrorAt(1, "merchant @\u00e9;");
        CHECK.dueErrorAt(1, "merchant a@_b;");
        CHECK.dueGood(ORDER + "1<=2;");
        CHECK.dueGood(ORDER + "1>=2;");
        CHECK.dueErrorAt(1, ORDER + "1< @=2;");
        CHECK.dueErrorAt(1, ORDER + "1=@<2;");
        CHECK.dueErrorAt(1, ORDER + "1<@>2;");
        CHECK.dueErrorAt(1, "merchant @1;");
        CHECK.dueErrorAt(1, "merchant @card;");
        CHECK.dueErrorAt(1, "card a cost @b worth 1;");
        for (String keyword : ("card cost worth coins draws buys trash combo start of pile merchant buy for when round hand "
                + "played owned left trashed not and or min max").split(" ")) {
            CHECK.dueErrorAt(1, "merchant @" + keyword + ";");
            CHECK.dueGood("merchant " + keyword + "x1;");
        }
    }

    private static void grammar() {
        CHECK.dueErrorAt(1, "merchant m@");
        CHECK.dueErrorAt(1, "merchant m  \n@");
        CHECK.dueErrorAt(1, "@;");
        CHECK.dueErrorAt(1, "merchant m;@;");
        CHECK.dueErrorAt(1, "@m;");
        CHECK.dueErrorAt(1, "@trash m;");
        CHECK.dueErrorAt(1, "card a @worth 1 cost 1;");
        CHECK.dueErrorAt(1, "card a cost 1 @coins 1;");
        CHECK.dueErrorAt(1, "card a cost 1 worth @- 1;");
        CHECK.dueErrorAt(1, CARD + " coins@;");
        CHECK.dueErrorAt(1, CARD + " coins 1 @2;");
        CHECK.dueErrorAt(1, CARD + " trash a @2;");
        CHECK.dueErrorAt(1, CARD + " combo a@;");
        CHECK.dueErrorAt(1, CARD + " combo @1;");
        CHECK.dueErrorAt(1, CARD + " coins 1 @< 2;");
        CHECK.dueErrorAt(1, CARD + " coins @not 1;");
        CHECK.dueErrorAt(1, CARD + " coins @[1];");
        CHECK.dueErrorAt(1, CARD + " coins @a;");
        CHECK.dueErrorAt(1, CARD + " coins played @1;");
        CHECK.dueErrorAt(1, CARD + " coins min @1;");
        CHECK.dueErrorAt(1, CARD + " coins min(1@);");
        CHECK.dueErrorAt(1, CARD + " coins max(1, 2@, 3);");
        CHECK.dueErrorAt(1, CARD + " coins (1@;");
        CHECK.dueErrorAt(1, CARD + " coins @+ 1;");
        CHECK.dueErrorAt(1, CARD + " coins 1 * @/ 1;");
        CHECK.dueErrorAt(1, CARD + "; start @of a;");
        CHECK.dueErrorAt(1, CARD + "; start 1 @a;");
        CHECK.dueErrorAt(1, CARD + "; start 1 of @1;");
        CHECK.dueErrorAt(1, CARD + "; pile @a;");
        CHECK.dueErrorAt(1, CARD + "; pile 1 of@;");
        CHECK.dueErrorAt(1, "merchant a @b;");
        CHECK.dueErrorAt(1, CARD + "; merchant m; buy a @m;");
        CHECK.dueErrorAt(1, CARD + "; merchant m; buy a for m @1 = 1;");
        CHECK.dueErrorAt(1, ORDER + "@;");
        CHECK.dueErrorAt(1, ORDER + "1@;");
        CHECK.dueErrorAt(1, ORDER + "1 = 1 @= 1;");
        CHECK.dueErrorAt(1, ORDER + "(1 @= 1);");
        CHECK.dueErrorAt(1, ORDER + "[1 = 1@;");
        CHECK.dueErrorAt(1, ORDER + "[1@] = 1;");
        CHECK.dueErrorAt(1, ORDER + "1 = 1 and@;");
        CHECK.dueErrorAt(1, ORDER + "@and 1 = 1;");
        CHECK.dueErrorAt(1, ORDER + "not@;");
        CHECK.dueGood(CARD + " coins coins coins buys buys buys draws hand;");
        CHECK.dueGood(CARD + " combo a coins coins - buys * 2 trash a buys (round) - -1;");
        CHECK.dueGood(ORDER + "not [1 = 1 or not not 2 < 3] and (1) > -(2 + trashed) or left a <= owned a;");
        CHECK.dueGood("merchant a; card a cost 1 worth 1; pile 1 of a; start 1 of a; buy a for a;");
    }

    private static void depth() {
        CHECK.dueGood(CARD + " coins ((((((((1))))))));");
        CHECK.dueErrorAt(1, CARD + " coins ((((((((@(1)))))))));");
        CHECK.dueGood(CARD + " coins --------1;");
        CHECK.dueErrorAt(1, CARD + " coins --------@-1;");
        CHECK.dueErrorAt(1, CARD + " coins (((-----@-1)));");
        CHECK.dueGood(CARD + " coins 1 - (((((((-1)))))));");
        CHECK.dueGood(CARD + " coins ((((((((1 - 1 - 1 * 2))))))));");
        CHECK.dueErrorAt(1, CARD + " coins ((((((((1 * @-1))))))));");
        CHECK.dueGood(CARD + " coins " + Check.repeat("min(1, ", 8) + "1" + Check.repeat(")", 8) + ";");
        CHECK.dueErrorAt(1, CARD + " coins " + Check.repeat("min(1, ", 8) + "max@(1, 1)" + Check.repeat(")", 8) + ";");
        CHECK.dueGood(CARD + " coins " + Check.repeat("max(", 8) + "1" + Check.repeat(", 1)", 8) + ";");
        CHECK.dueErrorAt(1, CARD + " coins " + Check.repeat("max(", 8) + "@-1" + Check.repeat(", 1)", 8) + ";");
        CHECK.dueGood(CARD + " coins -1 + -1 + -1 + -1 + -1 + -1 + -1 + -1 + -1 + -1;");
        CHECK.dueGood(CARD + " coins (1) + (1) + (1) + (1) + (1) + (1) + (1) + (1) + (1);");
        CHECK.dueGood(ORDER + "not not not not not not not not 1 = 1;");
        CHECK.dueErrorAt(1, ORDER + "not not not not not not not not @not 1 = 1;");
        CHECK.dueGood(ORDER + "[[[[[[[[1 = 1]]]]]]]];");
        CHECK.dueErrorAt(1, ORDER + "[[[[[[[[@[1 = 1]]]]]]]]];");
        CHECK.dueGood(ORDER + "not [not [(-(-1)) = 1]] and not [not [(-(-1)) = 1]];");
        CHECK.dueErrorAt(1, ORDER + "not [not [(-(-@(1))) = 1]];");
        CHECK.dueErrorAt(1, ORDER + "not [not [((((@-1)))) = 1]];");
    }

    private static void mostTokens() {
        // 6 tokens of the card, 2 of buys, 2 of coins, 1 of the - in front, 2 of each addition, 1 at the end
        String most = CARD + " buys 1 coins -1" + Check.repeat("+1", 194) + ";";
        CHECK.dueGood(most);
        CHECK.dueGood(most + " \n");
        CHECK.dueErrorAt(1, most + " @merchant m;");
        CHECK.dueErrorAt(1, most + "@?");
        CHECK.dueErrorAt(1, CARD + " buys 1 coins 1" + Check.repeat("+1", 195) + "@;");
        CHECK.dueErrorAt(1, CARD + " buys 1 coins 1" + Check.repeat("+1", 195) + " @");
        CHECK.dueErrorAt(1, CARD + " buys 1 coins -1" + Check.repeat("+1", 194) + "+@1;");
    }

    private static void error2() {
        CHECK.dueErrorAt(2, CARD + "; card @a cost 1 worth 1;");
        CHECK.dueErrorAt(2, "merchant b; merchant c; merchant @b;");
        CHECK.dueGood("merchant a; " + CARD + ";");
        CHECK.dueGood("merchant a; merchant a1; merchant a2; merchant aa;");
        CHECK.dueGood("merchant a9; merchant aa; merchant a0; merchant a;");
        CHECK.dueGood("merchant zzzzzzzzzz; merchant zzzzzzzzz9; merchant z999999999; merchant zzzzzzzzz;");
        CHECK.dueErrorAt(2, cards(10) + "card @c9 cost 1 worth 1;");
        CHECK.dueErrorAt(2, "merchant a; merchant b; merchant c; merchant d; merchant @d;");
    }

    private static void error3() {
        CHECK.dueErrorAt(3, "start 1 of @a;");
        CHECK.dueErrorAt(3, "pile 1 of @a;");
        CHECK.dueErrorAt(3, "pile 1 of @a; card a cost 1 worth 1;");
        CHECK.dueErrorAt(3, "merchant m; buy @m for m;");
        CHECK.dueErrorAt(3, CARD + "; buy a for @a;");
        CHECK.dueErrorAt(3, CARD + " trash @b;");
        CHECK.dueErrorAt(3, CARD + " combo @b 1;");
        CHECK.dueErrorAt(3, CARD + " coins played @b;");
        CHECK.dueErrorAt(3, CARD + " coins owned @b;");
        CHECK.dueErrorAt(3, CARD + " coins 1 - left @b;");
        CHECK.dueErrorAt(3, ORDER + "1 = 1 or owned @b = 1;");
        CHECK.dueErrorAt(3, "card b cost 1 worth 1 coins left @a; card a cost 1 worth 1;");
        CHECK.dueGood(CARD + " trash a combo a played a + owned a + left a;");
    }

    private static void error4() {
        CHECK.dueGood(cards(10));
        CHECK.dueErrorAt(4, cards(10) + "card @d cost 1 worth 1;");
        CHECK.dueGood("merchant a; merchant b; merchant c; merchant d;");
        CHECK.dueErrorAt(4, "merchant a; merchant b; merchant c; merchant d; merchant @e;");
        CHECK.dueGood(CARD + " trash a coins 1 combo a 2 draws 3;");
        CHECK.dueErrorAt(4, CARD + " trash a coins 1 combo a 2 draws 3 @buys 1;");
        CHECK.dueErrorAt(4, CARD + " trash a coins 1 combo a 2 draws 3 @trash b;");
        CHECK.dueErrorAt(4, CARD + " coins coins coins coins coins coins coins 1 @coins coins;");
        CHECK.dueGood(CARD + "; start 20 of a;");
        CHECK.dueErrorAt(4, CARD + "; start @21 of a;");
        CHECK.dueGood(CARD + "; card b cost 1 worth 1; start 12 of a; start 8 of b;");
        CHECK.dueErrorAt(4, CARD + "; card b cost 1 worth 1; start 12 of a; start @9 of b;");
        CHECK.dueErrorAt(4, CARD + "; start 20 of a; start @1 of a;");
        CHECK.dueErrorAt(4, CARD + "; start @999999 of a;");
        CHECK.dueGood(CARD + "; merchant m; " + Check.repeat("buy a for m;", 16));
        CHECK.dueErrorAt(4, CARD + "; merchant m; " + Check.repeat("buy a for m;", 16) + "@buy b for c;");
    }

    private static void error5() {
        CHECK.dueGood("card a cost 0 worth 0;");
        CHECK.dueGood("card a cost 99 worth 99;");
        CHECK.dueErrorAt(5, "card a cost @100 worth 1;");
        CHECK.dueErrorAt(5, "card a cost 1 worth @100;");
        CHECK.dueErrorAt(5, CARD + "; start @0 of a;");
        CHECK.dueErrorAt(5, CARD + "; start 20 of a; start @0 of a;");
        CHECK.dueGood(CARD + "; start 1 of a;");
        CHECK.dueGood(CARD + "; pile 0 of a;");
        CHECK.dueGood(CARD + "; pile 30 of a;");
        CHECK.dueErrorAt(5, CARD + "; pile @31 of a;");
        CHECK.dueGood(CARD + " coins 999999;");
    }

    private static void whichErrorFirst() {
        // error 1 before all others, then the one farthest left
        CHECK.dueErrorAt(1, "card a cost 100 worth 1; merchant@;");
        CHECK.dueErrorAt(5, "card a cost @100 worth 100; pile 31 of b;");
        CHECK.dueErrorAt(5, CARD + "; pile @31 of b;");
        CHECK.dueErrorAt(3, CARD + "; start 3 of @b; merchant m; merchant m;");
        CHECK.dueErrorAt(2, "merchant m; merchant @m; buy a for b;");
        CHECK.dueErrorAt(3, "merchant m; buy @a for b when played c = 1;");
    }

    private static String cards(int many) {
        StringBuilder list = new StringBuilder();
        for (int i = 0; i < many; i++) {
            list.append("card c").append(i).append(" cost 1 worth 1; ");
        }
        return list.toString();
    }
}
