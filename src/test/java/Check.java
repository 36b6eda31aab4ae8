/** What the tests share: they count the answers that are not as due, and feed texts. */
final class Check {
    private final String test;
    private int asked = 0;
    private int wrong = 0;

    Check(String test) {
        this.test = test;
    }

    interface Call {
        long answer();
    }

    void due(String what, long got, long want) {
        asked++;
        if (got != want) {
            wrong++;
            System.out.println(test + ": " + what + " answered " + got + ", due is " + want);
        }
    }

    void dueNumber(String what, double got, double want) {
        asked++;
        if (got != want) {
            wrong++;
            System.out.println(test + ": " + what + " answered " + got + ", due is " + want);
        }
    }

    /** The call has to throw exactly this exception. */
    void dueThrow(String what, Call call, Class<? extends RuntimeException> want) {
        asked++;
        String got;
        try {
            got = "" + call.answer();
        } catch (RuntimeException e) {
            got = e.getClass().getName();
        }
        if (!got.equals(want.getName())) {
            wrong++;
            System.out.println(test + ": " + what + " answered " + got + ", due is " + want.getName());
        }
    }

    void dueOutOfBounds(String what, Call call) {
        dueThrow(what, call, IndexOutOfBoundsException.class);
    }

    void dueIllegalArgument(String what, Call call) {
        dueThrow(what, call, IllegalArgumentException.class);
    }

    void dueIllegalState(String what, Call call) {
        dueThrow(what, call, IllegalStateException.class);
    }

    void dueRow(String what, int[] got, int... want) {
        due(what + " has so many", got.length, want.length);
        for (int i = 0; i < got.length && i < want.length; i++) {
            due(what + " " + i, got[i], want[i]);
        }
    }

    /** The call has to throw exactly this exception, and all that the object tells has to be the same behind it. */
    void dueRefused(String what, TarotMerchants x, Call call, Class<? extends RuntimeException> want) {
        long digest = x.digest();
        int errorAt = x.errorAt();
        int ahead = x.foresee(2, 7);
        dueThrow(what, call, want);
        due("digest() behind " + what, x.digest(), digest);
        due("errorAt() behind " + what, x.errorAt(), errorAt);
        due("foresee(2, 7) behind " + what, x.foresee(2, 7), ahead);
    }

    /** Whether a test of the language holds, in the first turn of a merchant without cards; a is a card of cost 0. */
    void dueHolds(String test, boolean want) {
        TarotMerchants x = taught("card a cost 0 worth 0; pile 1 of a; merchant m; buy a for m when " + test + ";");
        due("holds: " + test, x.next(0, 4), want ? 1 : 0);
    }

    /** What is taught has to have this error (0 for none) at this position. */
    void dueError(String list, int error, int place) {
        TarotMerchants x = new TarotMerchants();
        due("teach() of '" + list + "'", teach(x, list), error);
        due("errorAt() behind '" + list + "'", x.errorAt(), place);
    }

    /** The first @ tells where the error has to be; it is not fed. */
    void dueErrorAt(int error, String marked) {
        int place = marked.indexOf('@');
        dueError(marked.substring(0, place) + marked.substring(place + 1), error, place);
    }

    void dueGood(String list) {
        dueError(list, 0, -1);
    }

    void end() {
        System.out.println(test + ": " + asked + " answers, " + wrong + " not as due");
        if (wrong != 0) {
            System.exit(1);
        }
    }

    /** Appends a text to an empty tape, whose bytes are its characters. */
    static void feed(TarotMerchants x, String text) {
        for (int from = 0; from < text.length(); from += 20) {
            x.feed(four(text, from), four(text, from + 4), four(text, from + 8), four(text, from + 12), four(text, from + 16));
        }
        x.trim(text.length());
    }

    static int four(String text, int from) {
        int number = 0;
        for (int i = from; i < from + 4; i++) {
            number = number << 8 | (i < text.length() ? text.charAt(i) & 255 : ' ');
        }
        return number;
    }

    static int teach(TarotMerchants x, String list) {
        x.trim(0);
        feed(x, list);
        return x.teach();
    }

    static TarotMerchants taught(String list) {
        TarotMerchants x = new TarotMerchants();
        int error = teach(x, list);
        if (error != 0) {
            throw new IllegalStateException("error " + error + " at " + x.errorAt() + " of: " + list);
        }
        return x;
    }

    static int[] deck(TarotMerchants x, int merchant) {
        int[] row = new int[x.merchant(merchant, 0)];
        for (int place = 0; place < row.length; place++) {
            row[place] = x.deck(merchant, place);
        }
        return row;
    }

    static int[] discards(TarotMerchants x, int merchant) {
        int[] row = new int[x.merchant(merchant, 1)];
        for (int place = 0; place < row.length; place++) {
            row[place] = x.discard(merchant, place);
        }
        return row;
    }

    static String repeat(String part, int times) {
        return part.repeat(times);
    }
}
