import java.util.Arrays;
import java.util.List;

/** Error 1: behind each beginning of a list each token is tried, and is told as the first wrong one just if it can't follow there. */
public final class GrammarTest {
    private static final Check CHECK = new Check("GrammarTest");
    private static final String LINE = "card start pile merchant buy";
    private static final String DEED = "coins draws buys trash combo";
    private static final String VALUE = "7 round coins buys hand trashed played owned left - ( min max";
    private static final String SINGLE = VALUE + " not [";
    private static final String OPERATION = "+ - * /";
    private static final String COMPARISON = "< > = <= >=";
    private static final String JOINT = OPERATION + " and or";
    private static final String BEHIND_SUM = OPERATION + " " + DEED + " ;";
    private static final String CARD = "card a cost 1 worth 1 ";
    private static final String WHEN = CARD + "; merchant m; buy a for m when ";

    /** x1 stands for all names, 7 for all numbers, and ? for all bytes with which no token begins. */
    private static final String[] TOKENS = ("x1 7 ? card cost worth coins draws buys trash combo start of pile merchant buy for when round hand played owned "
        + "left trashed not and or min max ( ) [ ] ; , + - * / < > = <= >=").split(" ");

    public static void main(String[] args) {
        lines();
        cards();
        sums();
        sumsInTests();
        tests();
        CHECK.end();
    }

    private static void follow(String ahead, String good) {
        List<String> can = Arrays.asList(good.split(" "));
        for (String token : TOKENS) {
            TarotMerchants x = new TarotMerchants();
            String list = ahead + " " + token;
            int error = Check.teach(x, list);
            boolean wrong = error == 1 && x.errorAt() == ahead.length() + 1;
            CHECK.due("is " + token + " wrong (1) behind: " + ahead, wrong ? 1 : 0, can.contains(token) ? 0 : 1);
        }
        for (String token : can) {
            CHECK.due("is tried (1): " + token, token.equals("end") || Arrays.asList(TOKENS).contains(token) ? 1 : 0, 1);
        }
        TarotMerchants x = new TarotMerchants();
        boolean wrong = Check.teach(x, ahead) == 1;
        CHECK.due("is the end wrong (1) behind: " + ahead, wrong ? 1 : 0, can.contains("end") ? 0 : 1);
        CHECK.due("errorAt() behind: " + ahead, wrong ? x.errorAt() : -1, wrong ? ahead.length() : -1);
    }

    private static void lines() {
        follow("", LINE + " end");
        follow("merchant m;", LINE + " end");
        follow(CARD + ";", LINE + " end");
        follow("start", "7");
        follow("start 1", "of");
        follow("start 1 of", "x1");
        follow("start 1 of a", ";");
        follow("start 1 of a;", LINE + " end");
        follow("pile", "7");
        follow("pile 1", "of");
        follow("pile 1 of", "x1");
        follow("pile 1 of a", ";");
        follow("pile 1 of a;", LINE + " end");
        follow("merchant", "x1");
        follow("merchant m", ";");
        follow("buy", "x1");
        follow("buy a", "for");
        follow("buy a for", "x1");
        follow("buy a for m", "when ;");
        follow("buy a for m;", LINE + " end");
        follow(WHEN + "1 = 1;", LINE + " end");
    }

    private static void cards() {
        follow("card", "x1");
        follow("card a", "cost");
        follow("card a cost", "7");
        follow("card a cost 1", "worth");
        follow("card a cost 1 worth", "7");
        follow("card a cost 1 worth 1", DEED + " ;");
        follow(CARD + "coins", VALUE);
        follow(CARD + "draws", VALUE);
        follow(CARD + "buys", VALUE);
        follow(CARD + "trash", "x1");
        follow(CARD + "trash a", DEED + " ;");
        follow(CARD + "combo", "x1");
        follow(CARD + "combo a", VALUE);
        for (String deed : new String[] {"coins 1", "draws 1", "buys 1", "combo a 1"}) {
            follow(CARD + deed, BEHIND_SUM);
            follow(CARD + "trash a " + deed, BEHIND_SUM);
        }
        follow(CARD + "coins 1 trash a", DEED + " ;");
    }

    private static void sums() {
        for (String value : new String[] {"1", "round", "coins", "buys", "hand", "trashed", "played a", "owned a", "left a", "-1", "(1)", "min(1, 1)",
            "max(1, 1)", "1 + 1", "1 - 1", "1 * 1", "1 / 1", "- - 1", "((1) * 1)"}) {
            follow(CARD + "coins " + value, BEHIND_SUM);
            follow(CARD + "coins (" + value, OPERATION + " )");
            follow(CARD + "coins min(" + value, OPERATION + " ,");
            follow(CARD + "coins max(" + value + ", " + value, OPERATION + " )");
            follow(CARD + "coins 2 * -(" + value + ")", BEHIND_SUM);
        }
        for (String ahead : new String[] {"", "-", "(", "1 +", "1 -", "1 *", "1 /", "min(", "max(", "min(1,", "max(1,", "- -", "((", "-("}) {
            String list = (CARD + "coins " + ahead).trim();
            follow(list, VALUE);
            follow(list + " played", "x1");
            follow(list + " owned", "x1");
            follow(list + " left", "x1");
            follow(list + " min", "(");
            follow(list + " max", "(");
        }
    }

    private static void sumsInTests() {
        for (String value : new String[] {"1", "round", "coins", "buys", "hand", "trashed", "played a", "owned a", "left a", "-1", "(1)", "max(1, 1)"}) {
            follow(WHEN + value, OPERATION + " " + COMPARISON);
            follow(WHEN + "(" + value, OPERATION + " )");
            follow(WHEN + "1 = " + value, JOINT + " ;");
            follow(WHEN + "[" + value, OPERATION + " " + COMPARISON);
            follow(WHEN + "not " + value, OPERATION + " " + COMPARISON);
        }
        for (String comparison : COMPARISON.split(" ")) {
            follow(WHEN + "1 " + comparison, VALUE);
            follow(WHEN + "1 " + comparison + " left", "x1");
            follow(WHEN + "1 " + comparison + " 1", JOINT + " ;");
            follow(WHEN + "[1 " + comparison + " 1", JOINT + " ]");
        }
    }

    private static void tests() {
        for (String ahead : new String[] {"", "not", "[", "1 = 1 and", "1 = 1 or", "[[", "not not", "not [", "[not", "[1 = 1] and", "not 1 = 1 or"}) {
            String list = (WHEN + ahead).trim();
            follow(list, SINGLE);
            follow(list + " owned", "x1");
            follow(list + " [1 = 1]", "and or " + (ahead.contains("[") && !ahead.contains("]") ? "]" : ";"));
        }
        follow(WHEN + "not 1 = 1", JOINT + " ;");
        follow(WHEN + "[not 1 = 1", JOINT + " ]");
        follow(WHEN + "[1 = 1] and 1 = 1", JOINT + " ;");
        follow(WHEN + "[[1 = 1] or 1 = 1", JOINT + " ]");
        follow(WHEN + "[[1 = 1]]", "and or ;");
    }
}
