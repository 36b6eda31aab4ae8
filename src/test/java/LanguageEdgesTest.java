/** The boundary cases that the document names in "Terms" and in "1. The language", a method for each sentence. */
public final class LanguageEdgesTest {
    private static final Check CHECK = new Check("LanguageEdgesTest");
    private static final String CARD = "card a cost 1 worth 1";
    private static final String MERCHANT = "merchant m;";
    private static final String ORDER = CARD + "; " + MERCHANT + " buy a for m when ";
    private static final String PILES = CARD + ";" + MERCHANT + Check.repeat("pile 1 of a;", 78);
    private static final String MOST = "(2147 * 999999 + 485794)";
    private static final String LEAST = "(-2147 * 999999 - 485795)";

    public static void main(String[] args) {
        sumsWrapAround();
        differencesWrapAround();
        productsWrapAround();
        quotientsAreCutTowardsZero();
        quotientByZeroIsZero();
        leastByMinusOneIsLeast();
        positionsAreCountedFromZeroInBytes();
        tapeOfAtMost2000Bytes();
        tapeIsEmptyAtFirstAndBehindTeach();
        onlyTwoBytesAreBlanks();
        bytesBetweenTheTokensOfASum();
        bytesBetweenTheTokensOfATest();
        blanksBetweenAtTheBeginningAndAtTheEnd();
        blanksHaveToStandBetweenWhatWouldBeOne();
        longestPossibleToken();
        wordOfAtMostTenBytes();
        tenBytesAreTheName();
        differentNamesAreDifferent();
        numberOfOneToSixDigits();
        depthOfAtMostEight();
        depthIsLessBehindTheEnd();
        depthBeginsAnewInEachDeedAndOrder();
        the401stToken();
        the401stTokenIsNotAheadOfAWrongOne();
        endOfTheTapeIsAtItsLength();
        error1IsAheadOfAllOthers();
        error2OfTheSameSortToldAhead();
        error3OfWhatWasNotToldAhead();
        error4Of11thCard();
        error4Of5thMerchant();
        error4Of5thDeed();
        error4OfMoreThan20Cards();
        error4Of17thOrder();
        error5OfCost();
        error5OfWorth();
        error5OfStart();
        error5OfPile();
        firstErrorFromTheLeft();
        smallestNumberAtOneToken();
        numberedInTheOrderInWhichTheyAreTold();
        CHECK.end();
    }

    // ---- Terms

    private static void sumsWrapAround() {
        CHECK.dueHolds(MOST + " + 0 = " + MOST, true);
        CHECK.dueHolds(MOST + " > 0", true);
        CHECK.dueHolds(MOST + " + 1 = " + LEAST, true);
        CHECK.dueHolds(MOST + " + 1 < 0", true);
        CHECK.dueHolds(MOST + " + " + MOST + " = -2", true);
        CHECK.dueHolds(LEAST + " + " + LEAST + " = 0", true);
        CHECK.dueHolds(LEAST + " + -1 = " + MOST, true);
    }

    private static void differencesWrapAround() {
        CHECK.dueHolds(LEAST + " - 0 < 0", true);
        CHECK.dueHolds(LEAST + " - 1 = " + MOST, true);
        CHECK.dueHolds(LEAST + " - 1 > 0", true);
        CHECK.dueHolds(MOST + " - -1 = " + LEAST, true);
        CHECK.dueHolds("0 - " + LEAST + " = " + LEAST, true);
        CHECK.dueHolds("-" + LEAST + " = " + LEAST, true);
        CHECK.dueHolds("-" + MOST + " = " + LEAST + " + 1", true);
        // the difference wraps around, but a comparison does not
        CHECK.dueHolds(LEAST + " < " + MOST, true);
        CHECK.dueHolds(MOST + " > " + LEAST, true);
        CHECK.dueHolds(MOST + " <= " + LEAST, false);
        CHECK.dueHolds(LEAST + " >= " + MOST, false);
        CHECK.dueHolds("max(" + LEAST + ", " + MOST + ") = " + MOST, true);
        CHECK.dueHolds("min(" + LEAST + ", " + MOST + ") = " + LEAST, true);
    }

    private static void productsWrapAround() {
        CHECK.dueHolds("46340 * 46340 = 2147 * 999999 + 397747", true);
        CHECK.dueHolds("46341 * 46341 = -2147 * 999999 - 481162", true);
        CHECK.dueHolds("65536 * 32768 = " + LEAST, true);
        CHECK.dueHolds("65536 * 65536 = 0", true);
        CHECK.dueHolds("65536 * 65537 = 65536", true);
        CHECK.dueHolds("999999 * 999999 = -729379 * 1000 - 967", true);
        CHECK.dueHolds(LEAST + " * -1 = " + LEAST, true);
        CHECK.dueHolds(MOST + " * " + MOST + " = 1", true);
    }

    private static void quotientsAreCutTowardsZero() {
        CHECK.dueHolds("7 / 2 = 3", true);
        CHECK.dueHolds("-7 / 2 = -3", true);
        CHECK.dueHolds("7 / -2 = -3", true);
        CHECK.dueHolds("-7 / -2 = 3", true);
        CHECK.dueHolds("1 / 2 = 0", true);
        CHECK.dueHolds("-1 / 2 = 0", true);
        CHECK.dueHolds("-2 / 2 = -1", true);
        CHECK.dueHolds("0 / 5 = 0", true);
    }

    private static void quotientByZeroIsZero() {
        CHECK.dueHolds("1 / 0 = 0", true);
        CHECK.dueHolds("-1 / 0 = 0", true);
        CHECK.dueHolds("0 / 0 = 0", true);
        CHECK.dueHolds(MOST + " / 0 = 0", true);
        CHECK.dueHolds(LEAST + " / (1 - 1) = 0", true);
        CHECK.dueHolds("5 / (1 / 2) + 3 = 3", true);
        CHECK.dueHolds("5 / 1 = 5", true);
        CHECK.dueHolds("5 / -1 = -5", true);
    }

    private static void leastByMinusOneIsLeast() {
        CHECK.dueHolds(LEAST + " / -1 = " + LEAST, true);
        CHECK.dueHolds(LEAST + " / 1 = " + LEAST, true);
        CHECK.dueHolds("(" + LEAST + " + 1) / -1 = " + MOST, true);
        CHECK.dueHolds(MOST + " / -1 = " + LEAST + " + 1", true);
        CHECK.dueHolds(LEAST + " / " + LEAST + " = 1", true);
    }

    private static void positionsAreCountedFromZeroInBytes() {
        CHECK.dueError("?", 1, 0);
        CHECK.dueError(" ?", 1, 1);
        CHECK.dueError("\n\n?", 1, 2);
        CHECK.dueError(MERCHANT + "\n" + MERCHANT, 2, 21);
    }

    // ---- the tape

    private static void tapeOfAtMost2000Bytes() {
        CHECK.dueGood(Check.repeat(" ", 2000));
        CHECK.dueGood(Check.repeat(" ", 1989) + MERCHANT);
        CHECK.dueError(Check.repeat(" ", 1990) + "merchant m", 1, 2000);
        CHECK.dueError(Check.repeat(" ", 1999) + "?", 1, 1999);
        TarotMerchants x = new TarotMerchants();
        Check.feed(x, Check.repeat("\n", 1989) + MERCHANT);
        CHECK.due("bytes", x.count(8), 2000);
        CHECK.dueRefused("feed behind 2000", x, () -> x.feed(0x3f3f3f3f, 0, 0, 0, 0), IllegalStateException.class);
        CHECK.due("teach", x.teach(), 0);
        CHECK.due("its last line", x.count(2), 1);
    }

    private static void tapeIsEmptyAtFirstAndBehindTeach() {
        TarotMerchants x = new TarotMerchants();
        CHECK.due("at first", x.count(8), 0);
        CHECK.due("teach of an empty tape", x.teach(), 0);
        Check.feed(x, MERCHANT);
        CHECK.due("bytes", x.count(8), 11);
        CHECK.due("teach", x.teach(), 0);
        CHECK.due("behind a list", x.count(8), 0);
        Check.feed(x, "merchant m");
        CHECK.due("teach", x.teach(), 1);
        CHECK.due("behind an error", x.count(8), 0);
        CHECK.dueIllegalArgument("nothing is kept", () -> x.trim(1));
        CHECK.due("feed begins at 0", x.feed(0x6d657263, 0x68616e74, 0x206e3b20, 0x20202020, 0x20202020), 20);
        CHECK.due("teach", x.teach(), 0);
    }

    // ---- tokens

    private static boolean isOf(int b, String bytes) {
        return bytes.indexOf(b) >= 0;
    }

    private static void onlyTwoBytesAreBlanks() {
        for (int b = 0; b < 256; b++) {
            String list = "merchant m" + (char) b + ";";
            if (isOf(b, " \nabcdefghijklmnopqrstuvwxyz0123456789")) {
                CHECK.dueGood(list);
            } else {
                CHECK.dueError(list, 1, b == ';' ? 11 : 10);
            }
        }
    }

    private static void bytesBetweenTheTokensOfASum() {
        String ahead = CARD + " coins 1";
        for (int b = 0; b < 256; b++) {
            String list = ahead + (char) b + "1;";
            if (isOf(b, "+-*/0123456789")) {
                CHECK.dueGood(list);
            } else {
                CHECK.dueError(list, 1, ahead.length() + (isOf(b, " \n;") ? 1 : 0));
            }
        }
    }

    private static void bytesBetweenTheTokensOfATest() {
        String ahead = ORDER + "1";
        for (int b = 0; b < 256; b++) {
            String list = ahead + (char) b + "1;";
            if (isOf(b, "<>=")) {
                CHECK.dueGood(list);
            } else {
                CHECK.dueError(list, 1, ahead.length() + (isOf(b, " \n") ? 1 : isOf(b, "+-*/0123456789") ? 2 : 0));
            }
        }
    }

    private static void blanksBetweenAtTheBeginningAndAtTheEnd() {
        CHECK.dueGood("");
        CHECK.dueGood(" ");
        CHECK.dueGood("\n");
        CHECK.dueGood(" \n merchant \n m \n ; \n ");
        CHECK.dueGood("card a cost 1worth 2coins(1+2)*3draws-1combo a 1trash a;");
    }

    private static void blanksHaveToStandBetweenWhatWouldBeOne() {
        CHECK.dueErrorAt(1, "@merchantm;");
        CHECK.dueErrorAt(1, "card a @cost1 worth 1;");
        CHECK.dueErrorAt(1, "card acost @1 worth 1;");
        CHECK.dueErrorAt(1, "card a cost 1 @1;");
        CHECK.dueErrorAt(1, CARD + " coins 1 @2;");
        CHECK.dueGood(CARD + " coins 12;");
        CHECK.dueErrorAt(1, CARD + " coins @leftb;");
        CHECK.dueErrorAt(1, ORDER + "@not1 = 1;");
        CHECK.dueErrorAt(1, CARD + " @tra sh a;");
    }

    private static void longestPossibleToken() {
        CHECK.dueGood(ORDER + "1<=1;");
        CHECK.dueGood(ORDER + "1>=1;");
        CHECK.dueErrorAt(1, ORDER + "1< @=1;");
        CHECK.dueErrorAt(1, ORDER + "1>\n@=1;");
        CHECK.dueErrorAt(1, ORDER + "1<=@=1;");
        CHECK.dueErrorAt(1, ORDER + "1=@=1;");
        CHECK.dueErrorAt(1, ORDER + "1=@>1;");
        CHECK.dueGood(ORDER + "1<-1;");
        CHECK.dueGood("merchant card1; merchant cards; merchant ma; merchant minx;");
        CHECK.dueGood(CARD + " coins trashed;");
        CHECK.dueErrorAt(1, CARD + " coins @trash ed;");
        // digits in front of a word are a number of their own
        CHECK.dueErrorAt(1, "merchant @1a;");
        CHECK.dueGood("card a cost 12worth 34draws 5buys 6;");
    }

    private static void wordOfAtMostTenBytes() {
        CHECK.dueGood("merchant abcdefghij;");
        CHECK.dueGood("merchant a123456789;");
        CHECK.dueErrorAt(1, "merchant @abcdefghijk;");
        CHECK.dueErrorAt(1, "merchant @a1234567890;");
        CHECK.dueErrorAt(1, "@merchantabc m;");
        CHECK.dueErrorAt(1, "merchant @" + Check.repeat("a", 1000) + ";");
        CHECK.dueErrorAt(1, CARD + " coins left @aaaaaaaaaaa;");
        CHECK.dueErrorAt(1, "@" + Check.repeat("z", 2000));
    }

    private static void tenBytesAreTheName() {
        CHECK.dueGood("merchant abcdefghij; merchant abcdefghik; merchant bbcdefghij; merchant abcdefghi;");
        CHECK.dueErrorAt(2, "merchant abcdefghij; merchant @abcdefghij;");
        CHECK.dueErrorAt(3, "card abcdefghij cost 1 worth 1; pile 1 of @abcdefghi1;");
    }

    /** Names of every last byte, and pairs in which a greater byte ahead could make up for a smaller one behind. */
    private static void differentNamesAreDifferent() {
        String bytes = "0123456789abcdefghijklmnopqrstuvwxyz";
        for (int i = 0; i < bytes.length(); i++) {
            for (int j = 0; j < bytes.length(); j++) {
                CHECK.dueError("merchant a" + bytes.charAt(i) + "; merchant a" + bytes.charAt(j) + ";", i == j ? 2 : 0, i == j ? 22 : -1);
            }
        }
        for (String pair : "az b0,a0 cm,a0 dm,as g0,a9 aa,a a0,a0 b,z a0,aaz ab0,zzzzzzzzzz zzzzzzzzzy,azzzzzzzzz b000000000".split(",")) {
            CHECK.dueGood("merchant " + pair.replace(" ", "; merchant ") + ";");
        }
    }

    private static void numberOfOneToSixDigits() {
        CHECK.due("one digit", Check.taught("card a cost 7 worth 1;").card(0, 0), 7);
        CHECK.due("six digits", Check.taught("card a cost 000042 worth 000000;").card(0, 0), 42);
        CHECK.dueErrorAt(1, "card a cost @0000042 worth 1;");
        CHECK.dueErrorAt(1, "card a cost @0000000 worth 1;");
        CHECK.dueHolds("999999 + 1 = 1000 * 1000", true);
        CHECK.dueErrorAt(1, CARD + " coins @1000000;");
        CHECK.dueErrorAt(1, CARD + " coins @" + Check.repeat("1", 1000) + ";");
        // 2 to the 32nd and to the 64th are not 0
        CHECK.dueErrorAt(1, CARD + " coins @4294967296;");
        CHECK.dueErrorAt(1, CARD + " coins @18446744073709551616;");
    }

    // ---- depth

    /** So deep in a sum and in a test; the % stands for where it goes on. */
    private static String nested(String part, int times) {
        String all = "%";
        for (int i = 0; i < times; i++) {
            all = all.replace("%", part);
        }
        return all;
    }

    private static void depthOfAtMostEight() {
        String[] good = {"(%)", "-%", "min(%, 1)", "min(1, %)", "max(%, 1)", "max(1, %)"};
        String[] bad = {"@(%)", "@-%", "min@(%, 1)", "min@(1, %)", "max@(%, 1)", "max@(1, %)"};
        for (int i = 0; i < good.length; i++) {
            for (int j = 0; j < good.length; j++) {
                String eight = nested(good[j], 4).replace("%", nested(good[i], 4));
                for (String deed : new String[] {"coins ", "draws ", "buys ", "combo a "}) {
                    CHECK.dueGood(CARD + " " + deed + eight.replace("%", "1") + ";");
                }
                CHECK.dueErrorAt(1, CARD + " coins " + eight.replace("%", bad[j]).replace("%", "1") + ";");
                CHECK.dueGood(ORDER + "1 = " + eight.replace("%", "1") + ";");
                CHECK.dueErrorAt(1, ORDER + eight.replace("%", bad[i]).replace("%", "1") + " = 1;");
            }
        }
        String[] goodTests = {"[%]", "not %"};
        String[] badTests = {"@[%]", "@not %"};
        for (int i = 0; i < 2; i++) {
            for (int j = 0; j < 2; j++) {
                String eight = nested(goodTests[j], 4).replace("%", nested(goodTests[i], 4));
                CHECK.dueGood(ORDER + eight.replace("%", "1 = 1") + ";");
                CHECK.dueErrorAt(1, ORDER + eight.replace("%", badTests[j]).replace("%", "1 = 1") + ";");
                for (String part : bad) {
                    CHECK.dueErrorAt(1, ORDER + eight.replace("%", "1 = " + part.replace("%", "1")) + ";");
                    String seven = nested(goodTests[i], 7);
                    CHECK.dueGood(ORDER + seven.replace("%", part.replace("%", "1").replace("@", "") + " = 1") + ";");
                }
            }
        }
    }

    private static void depthIsLessBehindTheEnd() {
        String sum = "((((((((1))))))))";
        CHECK.dueGood(CARD + " coins " + sum + " + " + sum + " * " + sum + " - --------1;");
        CHECK.dueGood(CARD + " coins (1) + min(1, 2) + (((((((-1 + (2) - min(1, 2))))))));");
        CHECK.dueErrorAt(1, CARD + " coins (1) + (((((((-1 + (2) - min(1, @-2))))))));");
        CHECK.dueGood(CARD + " coins -1 - -1 - -1 - -1 - -1 - -1 - -1 - -1 - -1;");
        CHECK.dueGood(ORDER + "[[[[[[[[1 = 1]]]]]]]] and [[[[[[[[1 = 1]]]]]]]] or not not not not not not not not 1 = 1;");
        CHECK.dueGood(ORDER + "not 1 = 1 and not 1 = 1 and not 1 = 1 and not [[[[[[[1 = 1 or 1 = 1]]]]]]] and [1 = 1] and [(1) = -1];");
        // behind a not the sums are deeper on both sides, but not behind the and
        CHECK.dueGood(ORDER + "not (((((((1))))))) = (((((((1))))))) and " + sum + " = " + sum + ";");
        CHECK.dueErrorAt(1, ORDER + "not (((((((1))))))) = (((((((@(1))))))));");
    }

    private static void depthBeginsAnewInEachDeedAndOrder() {
        String sum = "((((((((1))))))))";
        CHECK.dueGood(CARD + " coins " + sum + " draws " + sum + " buys " + sum + " combo a " + sum + ";");
        String order = "buy a for m when [[[[" + "((((1)))) = ----1]]]];";
        CHECK.dueGood(CARD + ";" + MERCHANT + Check.repeat(order, 11));
    }

    // ---- the most tokens

    private static void the401stToken() {
        CHECK.dueGood(PILES);
        CHECK.dueGood(PILES + " \n ");
        CHECK.dueErrorAt(1, PILES + "@merchant n;");
        CHECK.dueErrorAt(1, PILES + " \n@merchant");
        CHECK.dueErrorAt(1, PILES + " @pile 1 of a;");
        CHECK.dueErrorAt(1, PILES + "@1000000");
        CHECK.dueErrorAt(1, PILES + "  @?");
        // 398 tokens and two more, without the third one
        CHECK.dueErrorAt(1, PILES.substring(0, PILES.length() - 1) + " @");
        CHECK.dueErrorAt(1, ORDER + "1 = 1" + Check.repeat(" + 1", 190) + "@");
    }

    private static void the401stTokenIsNotAheadOfAWrongOne() {
        CHECK.dueErrorAt(1, "@;" + PILES);
        CHECK.dueErrorAt(1, PILES.substring(0, PILES.length() - 1) + " @pile 1 of a; pile 1 of a;");
        CHECK.dueErrorAt(1, CARD + " coins " + Check.repeat("(", 8) + "@" + Check.repeat("(", 400));
        // errors 2 to 5 are not looked at then
        CHECK.dueErrorAt(1, PILES.replace("cost 1", "cost 100") + "@merchant n;");
    }

    private static void endOfTheTapeIsAtItsLength() {
        CHECK.dueError("merchant", 1, 8);
        CHECK.dueError("merchant ", 1, 9);
        CHECK.dueError("merchant m", 1, 10);
        CHECK.dueError("merchant m \n ", 1, 13);
        CHECK.dueError(CARD, 1, CARD.length());
        CHECK.dueError(ORDER, 1, ORDER.length());
        CHECK.dueError(ORDER + "[1 = 1", 1, ORDER.length() + 6);
        CHECK.dueError(CARD + " coins (1", 1, CARD.length() + 9);
        CHECK.dueError(CARD + " coins played", 1, CARD.length() + 13);
    }

    // ---- errors 1 to 5

    private static void error1IsAheadOfAllOthers() {
        CHECK.dueErrorAt(1, "merchant m; merchant m; @?");
        CHECK.dueErrorAt(1, "pile 1 of a; @?");
        CHECK.dueErrorAt(1, "start 21 of a; @?");
        CHECK.dueErrorAt(1, "card a cost 100 worth 100@");
        CHECK.dueErrorAt(1, CARD + " coins left b @left;");
    }

    private static void error2OfTheSameSortToldAhead() {
        CHECK.dueErrorAt(2, CARD + "; card b cost 1 worth 1; card @a cost 1 worth 1;");
        CHECK.dueErrorAt(2, CARD + "; card b cost 1 worth 1; card @b cost 1 worth 1;");
        CHECK.dueErrorAt(2, "merchant m; merchant @m;");
        CHECK.dueGood("merchant a; " + CARD + "; merchant b; card m cost 1 worth 1; merchant m;");
    }

    private static void error3OfWhatWasNotToldAhead() {
        String b = "; card b cost 1 worth 1;";
        for (String use : new String[] {"trash %", "combo % 1", "coins played %", "draws owned %", "buys left %", "combo a left %"}) {
            CHECK.dueGood(CARD + " " + use.replace("%", "a") + b);
            CHECK.dueErrorAt(3, CARD + " " + use.replace("%", "@b") + b);
            CHECK.dueErrorAt(3, "merchant m; " + CARD + " " + use.replace("%", "@m") + b);
        }
        for (String use : new String[] {"start 1 of %;", "pile 1 of %;", "buy % for m;", "buy a for m when played % = 1;",
            "buy a for m when 1 = owned %;", "buy a for m when not [left % = 1];"}) {
            CHECK.dueGood(CARD + "; merchant m;" + use.replace("%", "a") + b.substring(1));
            CHECK.dueErrorAt(3, CARD + "; merchant m;" + use.replace("%", "@b") + b.substring(1));
            CHECK.dueErrorAt(3, CARD + "; merchant m;" + use.replace("%", "@m") + b.substring(1));
        }
        CHECK.dueGood(CARD + "; merchant m; buy a for m; merchant n;");
        CHECK.dueErrorAt(3, CARD + "; merchant m; buy a for @n; merchant n;");
        CHECK.dueErrorAt(3, CARD + "; merchant m; buy a for @a;");
    }

    private static String cards(int many) {
        StringBuilder list = new StringBuilder();
        for (int i = 0; i < many; i++) {
            list.append("card c").append(i).append(" cost 1 worth 1; ");
        }
        return list.toString();
    }

    private static void error4Of11thCard() {
        CHECK.due("10 cards", Check.taught(cards(10)).count(1), 10);
        CHECK.dueErrorAt(4, cards(10) + "card @x cost 100 worth 1;");
        CHECK.dueGood("merchant m;" + cards(10) + "merchant n; pile 1 of c9;");
    }

    private static void error4Of5thMerchant() {
        String four = "merchant a; merchant b; merchant c; merchant d;";
        CHECK.due("4 merchants", Check.taught(four).count(2), 4);
        CHECK.dueErrorAt(4, four + "merchant @e;");
        CHECK.dueGood(four + CARD + "; buy a for d;");
    }

    private static void error4Of5thDeed() {
        String[] deeds = {"coins 1", "draws 1", "buys 1", "trash a", "combo a 1"};
        for (String deed : deeds) {
            CHECK.due("4 deeds", Check.taught(CARD + Check.repeat(" " + deed, 4) + ";").card(0, 2), 4);
            CHECK.dueErrorAt(4, CARD + Check.repeat(" " + deed, 4) + " @" + deed + ";");
            CHECK.dueErrorAt(4, CARD + Check.repeat(" " + deed, 4) + " @trash b coins left c;");
        }
        // four of each card
        String b = "; card b cost 1 worth 1";
        CHECK.dueGood(CARD + Check.repeat(" coins 1", 4) + b + Check.repeat(" coins 1", 4) + ";");
        CHECK.dueErrorAt(4, CARD + b + Check.repeat(" coins 1", 4) + " @coins 1;");
    }

    private static void error4OfMoreThan20Cards() {
        CHECK.due("20 cards", Check.taught(CARD + "; start 20 of a; merchant m;").count(5), 20);
        CHECK.dueErrorAt(4, CARD + "; start @21 of a;");
        CHECK.dueErrorAt(4, CARD + "; start @21 of b;");
        CHECK.dueGood(CARD + ";" + Check.repeat("start 1 of a;", 20));
        CHECK.dueErrorAt(4, CARD + ";" + Check.repeat("start 1 of a;", 20) + "start @1 of a;");
        CHECK.dueGood(CARD + "; card b cost 1 worth 1; start 19 of a; merchant m; start 1 of b;");
        CHECK.dueErrorAt(4, CARD + "; card b cost 1 worth 1; start 19 of a; merchant m; start @2 of b;");
        CHECK.dueErrorAt(4, CARD + "; start 1 of a; start @20 of a;");
    }

    private static void error4Of17thOrder() {
        String two = CARD + "; merchant m; merchant n;";
        CHECK.due("16 orders", Check.taught(two + Check.repeat("buy a for m;", 16)).count(3), 16);
        CHECK.dueErrorAt(4, two + Check.repeat("buy a for m;", 16) + "@buy a for m;");
        CHECK.dueErrorAt(4, two + Check.repeat("buy a for m;", 8) + Check.repeat("buy a for n;", 8) + "@buy b for o;");
        CHECK.dueGood(two + Check.repeat("buy a for m;", 16) + "pile 1 of a; merchant o;");
    }

    private static void dueRange(String list, int least, int most) {
        for (int n = 0; n <= most + 1; n++) {
            boolean good = n >= least && n <= most;
            CHECK.dueError(list.replace("%", "" + n), good ? 0 : 5, good ? -1 : list.indexOf('%'));
        }
        CHECK.dueError(list.replace("%", "999999"), 5, list.indexOf('%'));
    }

    private static void error5OfCost() {
        dueRange("card a cost % worth 99;", 0, 99);
        CHECK.due("cost 0", Check.taught("card a cost 0 worth 1;").card(0, 0), 0);
        CHECK.due("cost 99", Check.taught("card a cost 99 worth 1;").card(0, 0), 99);
    }

    private static void error5OfWorth() {
        dueRange("card a cost 99 worth %;", 0, 99);
        CHECK.due("worth 0", Check.taught("card a cost 1 worth 0;").card(0, 1), 0);
        CHECK.due("worth 99", Check.taught("card a cost 1 worth 99;").card(0, 1), 99);
    }

    private static void error5OfStart() {
        for (int n = 1; n <= 20; n++) {
            CHECK.due("start " + n, Check.taught(CARD + "; merchant m; start " + n + " of a;").owns(0, 0), n);
        }
        CHECK.dueErrorAt(5, CARD + "; start @0 of a;");
        CHECK.dueErrorAt(5, CARD + "; start @000000 of b;");
    }

    private static void error5OfPile() {
        dueRange(CARD + "; pile % of a;", 0, 30);
        CHECK.due("pile 0", Check.taught(CARD + "; pile 0 of a;").card(0, 3), 0);
        CHECK.due("pile 30", Check.taught(CARD + "; pile 30 of a;").card(0, 3), 30);
        // no sum of several lines is told
        CHECK.due("pile 30 twice", Check.taught(CARD + "; pile 30 of a; pile 30 of a;").card(0, 3), 30);
    }

    private static void firstErrorFromTheLeft() {
        CHECK.dueErrorAt(2, CARD + "; card @a cost 100 worth 1;");
        CHECK.dueErrorAt(5, "card a cost @100 worth 100 trash b;");
        CHECK.dueErrorAt(5, "card a cost 1 worth @100 trash b;");
        CHECK.dueErrorAt(3, CARD + " trash @b; card a cost 1 worth 1;");
        CHECK.dueErrorAt(3, CARD + " combo @b left c coins 1 coins 1 coins 1 coins 1;");
        CHECK.dueErrorAt(3, CARD + " coins 1 coins 1 coins 1 coins left @c coins 1;");
        CHECK.dueErrorAt(4, CARD + "; start @21 of b; pile 31 of b;");
        CHECK.dueErrorAt(5, "pile @31 of b;");
        CHECK.dueErrorAt(3, "pile 30 of @b; pile 31 of b;");
        CHECK.dueErrorAt(3, CARD + "; buy @b for m when left c = 1;");
        CHECK.dueErrorAt(3, CARD + "; buy a for @m when left c = 1;");
        CHECK.dueErrorAt(3, CARD + "; merchant m; buy a for m when left @c = left d;");
    }

    private static void smallestNumberAtOneToken() {
        CHECK.dueErrorAt(2, cards(10) + "card @c0 cost 1 worth 1;");
        CHECK.dueErrorAt(2, "merchant a; merchant b; merchant c; merchant d; merchant @a;");
        CHECK.dueErrorAt(4, CARD + "; start @999999 of a;");
        CHECK.dueErrorAt(4, CARD + "; start 20 of a; start @21 of a;");
        // 20 and 0 more are not more than 20
        CHECK.dueErrorAt(5, CARD + "; start 20 of a; start @0 of a;");
    }

    private static void numberedInTheOrderInWhichTheyAreTold() {
        TarotMerchants x = Check.taught("card z cost 3 worth 1; merchant n; card y cost 2 worth 1; merchant m; card x cost 1 worth 1;"
            + "pile 5 of x; pile 6 of z; buy x for n when round = 40; buy z for m when round = 40; start 1 of y;");
        for (int card = 0; card < 3; card++) {
            CHECK.due("cost of card " + card, x.card(card, 0), 3 - card);
        }
        CHECK.due("seed of the first merchant", x.merchant(0, 2), 1);
        CHECK.due("order of n", x.missed(0, 1), 0);
        CHECK.due("order of m", x.missed(1, 1), 1);
    }
}
