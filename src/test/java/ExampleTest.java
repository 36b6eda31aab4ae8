/** The example of README.md, with the answers that stand there. */
public final class ExampleTest {
    private static final Check CHECK = new Check("ExampleTest");

    public static void main(String[] args) {
        TarotMerchants market = new TarotMerchants();
        feed(market, "card fool cost 0 worth 0 coins 1;");
        feed(market, "card sun cost 3 worth 2 coins 2 draws 1;");
        feed(market, "start 7 of fool; pile 10 of sun;");
        feed(market, "merchant ana; buy sun for ana;");
        feed(market, "merchant bea; buy sun for bea when round > 1 and coins >= 4;");
        CHECK.due("teach()", market.teach(), 0);
        CHECK.due("errorAt()", market.errorAt(), -1);
        CHECK.due("next(0, 0)", market.next(0, 0), 5);
        CHECK.due("foresee(10, 7)", market.foresee(10, 7), 10);
        CHECK.due("play(3)", market.play(3), 4);
        CHECK.due("count(0)", market.count(0), 3);
        CHECK.due("owns(0, 1)", market.owns(0, 1), 3);
        CHECK.due("card(1, 3)", market.card(1, 3), 6);
        CHECK.due("leader()", market.leader(), 0);
        CHECK.dueNumber("mean()", market.mean(), 4.0);
        CHECK.due("give(1, 1)", market.give(1, 1), 5);
        CHECK.due("merchant(1, 3)", market.merchant(1, 3), 4);
        CHECK.due("missed(0, 5)", market.missed(0, 5), 0);
        CHECK.due("advise(1, 5)", market.advise(1, 5), 1);

        feed(market, "merchant ana; merchant ana;");
        CHECK.due("teach() with an error", market.teach(), 2);
        CHECK.due("errorAt() with an error", market.errorAt(), 23);
        CHECK.due("count(0) behind an error", market.count(0), 3);
        CHECK.end();
    }

    private static void feed(TarotMerchants market, String line) {
        int[] n = new int[5];
        for (int from = 0; from < line.length(); from += 20) {
            for (int i = 0; i < 20; i++) {
                int b = from + i < line.length() ? line.charAt(from + i) : ' ';
                n[i / 4] = n[i / 4] << 8 | b;
            }
            market.feed(n[0], n[1], n[2], n[3], n[4]);
        }
    }
}
