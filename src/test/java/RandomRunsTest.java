import java.util.ArrayList;
import java.util.List;
import java.util.Random;

/** Compares random runs of calls, on good lists and on spoilt ones, with the reference model: all promises. */
public final class RandomRunsTest {
    private static final String[] SYMBOLS = {"(", ")", "[", "]", ";", ",", "+", "-", "*", "/", "<", ">", "=", "<=", ">=",
        "card", "cost", "worth", "coins", "draws", "buys", "trash", "combo", "start", "of", "pile", "merchant", "buy",
        "for", "when", "round", "hand", "played", "owned", "left", "trashed", "not", "and", "or", "min", "max",
        "c0", "c1", "c2", "m0", "m1", "b1", "zzzzzzzzzz", "zzzzzzzzzzz", "0", "5", "31", "100", "999999", "1000000", "A", "\t", "\u00ff"};

    private final Random random;
    private final Check check;
    private final List<String> cards = new ArrayList<>();
    private final List<String> merchants = new ArrayList<>();

    private RandomRunsTest(long seed, Check check) {
        random = new Random(seed);
        this.check = check;
    }

    public static void main(String[] args) {
        Check check = new Check("RandomRunsTest");
        int runs = args.length > 0 ? Integer.parseInt(args[0]) : 1500;
        int first = args.length > 1 ? Integer.parseInt(args[1]) : 0;
        int[] errors = new int[6];
        for (int run = first; run < first + runs; run++) {
            new RandomRunsTest(run, check).run(run, errors);
        }
        for (int error = 0; error <= 5; error++) {
            System.out.println("lists with error " + error + ": " + errors[error]);
            check.due("lists with error " + error + " are there (1)", errors[error] > 0 ? 1 : 0, 1);
        }
        check.end();
    }

    private void run(int run, int[] errors) {
        TarotMerchants x = new TarotMerchants();
        ReferenceModel y = new ReferenceModel();
        int lists = 1 + random.nextInt(3);
        for (int list = 0; list < lists; list++) {
            String text = list();
            for (int spoilt = random.nextInt(3); spoilt > 0; spoilt--) {
                text = random.nextInt(3) == 0 ? spoil(text) : text;
            }
            errors[teach(run, x, y, text)]++;
            // asked once a list, so that an object has no more than the 512 calls that are promised
            int manyCards = Math.max(1, x.count(1));
            int manyMerchants = Math.max(1, x.count(2));
            for (int call = 0; call < 60; call++) {
                call(run, x, y, manyCards, manyMerchants);
            }
            check.due(run + ": digest()", x.digest(), y.digest());
        }
    }

    private int teach(int run, TarotMerchants x, ReferenceModel y, String text) {
        String cut = text.length() > 2000 ? text.substring(0, 2000) : text;
        x.trim(0);
        y.trim(0);
        for (int from = 0; from < cut.length(); from += 20) {
            int[] n = new int[5];
            for (int i = 0; i < 5; i++) {
                n[i] = Check.four(cut, from + 4 * i);
            }
            check.due(run + ": feed", x.feed(n[0], n[1], n[2], n[3], n[4]), y.feed(n));
        }
        check.due(run + ": trim", x.trim(cut.length()), y.trim(cut.length()));
        int error = x.teach();
        check.due(run + ": teach of " + cut, error, y.teach());
        check.due(run + ": errorAt of " + cut, x.errorAt(), y.errorAt());
        return error;
    }

    private void call(int run, TarotMerchants x, ReferenceModel y, int manyCards, int manyMerchants) {
        int m = random.nextInt(12) == 0 ? random.nextInt(7) - 1 : random.nextInt(manyMerchants);
        int c = random.nextInt(12) == 0 ? random.nextInt(13) - 1 : random.nextInt(manyCards);
        int what = random.nextInt(11) - 1;
        int place = random.nextInt(10) == 0 ? random.nextInt(70) - 2 : random.nextInt(12);
        int few = random.nextInt(15) == 0 ? random.nextInt(24) - 1 : 1 + random.nextInt(6);
        int rounds = random.nextInt(8) == 0 ? random.nextInt(46) - 2 : 1 + random.nextInt(8);
        switch (random.nextInt(20)) {
            case 0: same(run, "count " + what, () -> x.count(what), () -> y.count(what)); break;
            case 1: same(run, "card " + c + " " + what, () -> x.card(c, what), () -> y.card(c, what)); break;
            case 2: same(run, "merchant " + m + " " + what, () -> x.merchant(m, what), () -> y.merchant(m, what)); break;
            case 3: same(run, "owns " + m + " " + c, () -> x.owns(m, c), () -> y.owns(m, c)); break;
            case 4: same(run, "deck " + m + " " + place, () -> x.deck(m, place), () -> y.deck(m, place)); break;
            case 5: same(run, "discard " + m + " " + place, () -> x.discard(m, place), () -> y.discard(m, place)); break;
            case 6: same(run, "leader", x::leader, y::leader); break;
            case 7:
            case 8:
            case 9: same(run, "give " + m + " " + c, () -> x.give(m, c), () -> y.give(m, c)); break;
            case 10: same(run, "trash " + m + " " + c, () -> x.trash(m, c), () -> y.trash(m, c)); break;
            case 11: same(run, "shuffle " + m, () -> x.shuffle(m), () -> y.shuffle(m)); break;
            case 12:
            case 13: same(run, "play " + rounds, () -> x.play(rounds), () -> y.play(rounds)); break;
            case 14: same(run, "next " + m + " " + what, () -> x.next(m, what), () -> y.next(m, what)); break;
            case 15: same(run, "foresee " + rounds + " " + what, () -> x.foresee(rounds, what), () -> y.foresee(rounds, what)); break;
            case 16: same(run, "missed " + m + " " + few, () -> x.missed(m, few), () -> y.missed(m, few)); break;
            case 17: same(run, "advise " + m + " " + few, () -> x.advise(m, few), () -> y.advise(m, few)); break;
            case 18: check.dueNumber(run + ": mean", x.mean(), y.mean()); break;
            default: same(run, "digest", x::digest, y::digest); break;
        }
    }

    private void same(int run, String what, Check.Call one, Check.Call other) {
        try {
            long want = other.answer();
            check.due(run + ": " + what, one.answer(), want);
        } catch (IllegalArgumentException | IllegalStateException | IndexOutOfBoundsException e) {
            check.dueThrow(run + ": " + what, one, e.getClass());
        }
    }

    // ---- lists

    private String list() {
        cards.clear();
        merchants.clear();
        StringBuilder list = new StringBuilder();
        int many = random.nextInt(8) == 0 ? random.nextInt(12) : 2 + random.nextInt(5);
        for (int i = 0; i < many; i++) {
            cards.add("c" + i);
            card(list, "c" + (random.nextInt(60) == 0 ? i / 2 : i));
        }
        int starts = 20;
        for (int i = random.nextInt(6); i > 0 && starts > 0 && many > 0; i--) {
            int n = 1 + random.nextInt(Math.min(starts + (random.nextInt(40) == 0 ? 2 : 0), 12));
            starts -= n;
            list.append("start ").append(n).append(" of ").append(anyCard()).append(line());
        }
        for (int i = random.nextInt(9); i > 0 && many > 0; i--) {
            list.append("pile ").append(random.nextInt(31)).append(" of ").append(anyCard()).append(line());
        }
        int most = random.nextInt(30) == 0 ? 6 : 1 + random.nextInt(4);
        for (int i = 0; i < most; i++) {
            merchants.add("m" + i);
            list.append("merchant m").append(random.nextInt(60) == 0 ? i / 2 : i).append(line());
        }
        for (int i = random.nextInt(30) == 0 ? 18 : random.nextInt(10); i > 0 && many > 0; i--) {
            list.append("buy ").append(anyCard()).append(" for ").append(merchants.get(random.nextInt(most)));
            if (random.nextBoolean()) {
                list.append(" when ");
                test(list, 2);
            }
            list.append(line());
        }
        return list.toString();
    }

    private String line() {
        return random.nextInt(4) == 0 ? " ;\n" : ";";
    }

    private String anyCard() {
        return cards.get(random.nextInt(cards.size()));
    }

    private void card(StringBuilder list, String name) {
        list.append("card ").append(name).append(" cost ").append(random.nextInt(random.nextInt(20) == 0 ? 105 : 7));
        list.append(" worth ").append(random.nextInt(random.nextInt(20) == 0 ? 105 : 7));
        int deeds = random.nextInt(25) == 0 ? 5 : random.nextInt(4);
        for (int i = 0; i < deeds; i++) {
            switch (random.nextInt(6)) {
                case 0:
                case 1: list.append(" coins "); sum(list, 2); break;
                case 2: list.append(" draws "); sum(list, 1); break;
                case 3: list.append(" buys "); sum(list, 1); break;
                case 4: list.append(" trash ").append(anyCard()); break;
                default: list.append(" combo ").append(anyCard()).append(' '); sum(list, 1); break;
            }
        }
        list.append(line());
    }

    private void test(StringBuilder list, int deep) {
        switch (deep > 0 ? random.nextInt(7) : 6) {
            case 0: list.append("not "); test(list, deep - 1); break;
            case 1: list.append('['); test(list, deep - 1); list.append(']'); break;
            case 2: test(list, deep - 1); list.append(" and "); test(list, deep - 1); break;
            case 3: test(list, deep - 1); list.append(" or "); test(list, deep - 1); break;
            default:
                sum(list, 1);
                list.append(new String[] {"<", ">", "=", "<=", ">="}[random.nextInt(5)]);
                sum(list, 1);
                break;
        }
    }

    private void sum(StringBuilder list, int deep) {
        switch (deep > 0 ? random.nextInt(14) : 8 + random.nextInt(6)) {
            case 0: sum(list, deep - 1); list.append(" + "); sum(list, deep - 1); break;
            case 1: sum(list, deep - 1); list.append("-"); sum(list, deep - 1); break;
            case 2: sum(list, deep - 1); list.append("*"); sum(list, deep - 1); break;
            case 3: sum(list, deep - 1); list.append(" / "); sum(list, deep - 1); break;
            case 4: list.append('('); sum(list, deep - 1); list.append(')'); break;
            case 5: list.append("- "); sum(list, deep - 1); break;
            case 6: list.append("min("); sum(list, deep - 1); list.append(","); sum(list, deep - 1); list.append(')'); break;
            case 7: list.append("max ("); sum(list, deep - 1); list.append(" , "); sum(list, deep - 1); list.append(')'); break;
            case 8: list.append(new String[] {"round", "coins", "buys", "hand", "trashed"}[random.nextInt(5)]); break;
            case 9: list.append("played ").append(anyCard()); break;
            case 10: list.append("owned ").append(anyCard()); break;
            case 11: list.append("left ").append(anyCard()); break;
            default: list.append(random.nextInt(25) == 0 ? 999999 : random.nextInt(5)); break;
        }
    }

    private String spoil(String text) {
        int place = text.isEmpty() ? 0 : random.nextInt(text.length());
        String symbol = SYMBOLS[random.nextInt(SYMBOLS.length)];
        switch (random.nextInt(6)) {
            case 0: return text.substring(0, place);
            case 1: return text.substring(0, place) + symbol + text.substring(place);
            case 2: return text.substring(0, place) + " " + symbol + " " + text.substring(place);
            case 3: return text.substring(0, place) + text.substring(Math.min(text.length(), place + 1));
            case 4: return text.substring(0, place) + (char) random.nextInt(256) + text.substring(Math.min(text.length(), place + 1));
            default: return replaceWord(text, place, symbol);
        }
    }

    private static String replaceWord(String text, int place, String symbol) {
        int from = Math.max(0, text.lastIndexOf(' ', place));
        int to = text.indexOf(' ', from + 1);
        return to < 0 ? text : text.substring(0, from) + " " + symbol + text.substring(to);
    }
}
