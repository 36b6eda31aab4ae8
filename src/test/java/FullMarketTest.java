/** A list that tells as much as can be told, played on and on, and compared with the reference model at each step. */
public final class FullMarketTest {
    private static final Check CHECK = new Check("FullMarketTest");
    private static final int CARDS = 10;
    private static final int MERCHANTS = 4;
    private static final String[] DEEDS = {"coins 2 draws 2 buys 1 coins hand", "draws 9 trash c0 combo c0 3 coins 1", "coins 99 coins 99 coins 99 buys 9",
        "trash c1 trash c2 trash c0 draws 3", "coins -3 buys -1 draws round combo c1 99", "combo c4 coins combo c5 5 coins owned c1 buys left c2",
        "draws 1 coins played c6 trash c6 buys 1", "coins trashed draws min(3, left c7) coins 7 combo c7 2", "coins 1 coins 2 coins 3 coins 4",
        "buys 9 draws 9 coins 999 trash c9"};

    public static void main(String[] args) {
        String list = list();
        for (int part = 0; part < 20; part++) {
            TarotMerchants x = new TarotMerchants();
            ReferenceModel y = new ReferenceModel();
            teach(list, x, y);
            for (int step = 0; step < part; step++) {
                due("play", x.play(1 + step % 3), y.play(1 + step % 3));
                due("digest", x.digest(), y.digest());
            }
            compare(x, y);
        }
        dearestCalls(list);
        CHECK.end();
    }

    private static void due(String what, long got, long want) {
        CHECK.due(what, got, want);
    }

    private static String list() {
        StringBuilder list = new StringBuilder();
        for (int card = 0; card < CARDS; card++) {
            list.append("card c").append(card).append(" cost ").append(card * 11).append(" worth ").append(99 - card * 11);
            list.append(' ').append(deedsOf(card)).append(";\n");
            list.append("start 2 of c").append(card).append(";pile ").append(30 - card % 3).append(" of c").append(card).append(";\n");
        }
        for (int merchant = 0; merchant < MERCHANTS; merchant++) {
            list.append("merchant m").append(merchant).append(";");
        }
        for (int order = 0; order < 16; order++) {
            list.append("\nbuy c").append(9 - order % CARDS).append(" for m").append(order % MERCHANTS);
            list.append(order % 3 == 0 ? " when round>1;" : ";");
        }
        return list.toString();
    }

    /** A card's deeds can name but those told ahead. */
    private static String deedsOf(int card) {
        String deeds = DEEDS[card];
        for (int other = card + 1; other < CARDS; other++) {
            deeds = deeds.replace("c" + other + " ", "c" + card + " ").replace("c" + other + ")", "c" + card + ")");
            deeds = deeds.endsWith("c" + other) ? deeds.substring(0, deeds.length() - 2) + "c" + card : deeds;
        }
        return deeds;
    }

    private static void teach(String list, TarotMerchants x, ReferenceModel y) {
        for (int from = 0; from < list.length(); from += 20) {
            int[] n = new int[5];
            for (int i = 0; i < 5; i++) {
                n[i] = Check.four(list, from + 4 * i);
            }
            due("feed", x.feed(n[0], n[1], n[2], n[3], n[4]), y.feed(n));
        }
        due("teach", x.teach(), 0);
        due("teach of the model", y.teach(), 0);
        due("cards", x.count(1), CARDS);
        due("merchants", x.count(2), MERCHANTS);
        due("orders", x.count(3), 16);
    }

    private static void compare(TarotMerchants x, ReferenceModel y) {
        for (int merchant = 0; merchant < MERCHANTS; merchant++) {
            for (int what = 0; what <= 4; what++) {
                due("next(" + merchant + ", " + what + ")", x.next(merchant, what), y.next(merchant, what));
            }
            due("missed(" + merchant + ", 5)", x.missed(merchant, 5), y.missed(merchant, 5));
            due("advise(" + merchant + ", 5)", x.advise(merchant, 5), y.advise(merchant, 5));
        }
        for (int what : new int[] {0, 4, 5, 6, 7}) {
            due("foresee(20, " + what + ")", x.foresee(20, what), y.foresee(20, what));
        }
        CHECK.dueNumber("mean", x.mean(), y.mean());
    }

    /** The calls of an object's life, each as dear as it can be. */
    private static void dearestCalls(String list) {
        TarotMerchants x = Check.taught(list);
        for (int call = 0; call < 200; call++) {
            due("missed has an order", x.missed(call % MERCHANTS, 20) >= 0 ? 1 : 0, 1);
            x.advise(call % MERCHANTS, 20);
        }
        due("nothing is changed", x.digest(), Check.taught(list).digest());
    }
}
