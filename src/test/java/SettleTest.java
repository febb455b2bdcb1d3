/**
 * Promise 11: exchanges that grow as long as they fail, and a listing in the end. Each method
 * stands for the sentence above it.
 */
public final class SettleTest {
    private static final Checks checks = new Checks();

    public static void main(String[] args) {
        refusesNoTwoBanks();
        refusesM();
        takesAnyTwoBanks();
        growsAsLongAsTheyFail();
        growsByWhatIsFoundToo();
        atMost16();
        listsWhenTheOneWith16Fails();
        answersWhatTheLastAnswers();
        endsWhenAnExchangeIsTooGreat();
        endsWhenTheListingIsTooGreat();
        checks.finish();
    }

    /** "BAD likewise": when there are no two such banks, and nothing is sent. */
    private static void refusesNoTwoBanks() {
        for (int[] pair : Beyond.PAIRS) {
            String name = "settle of " + pair[0] + " and " + pair[1];
            checks.refused(name, unequal(), x -> x.settle(pair[0], pair[1], 3), Face.BAD);
            checks.refused(name + " with no m", unequal(), x -> x.settle(pair[0], pair[1], 17), Face.BAD);
        }
    }

    /** "BAD likewise": or m is not 1 .. 16. */
    private static void refusesM() {
        for (int m : Beyond.REACHES) {
            checks.refused("settle with m " + m, unequal(), x -> x.settle(0, 3, m), Face.BAD);
            checks.refused("of equal banks with m " + m, unequal(), x -> x.settle(0, 1, m), Face.BAD);
        }
    }

    private static Face.Story unequal() {
        return x -> {
            Puts.all(x, 0, 1, 2);
            x.exchange(0, 1, 2);
            x.put(3, 5, 5);
        };
    }

    private static void takesAnyTwoBanks() {
        for (int a = 0; a < 4; a++) {
            for (int b = 0; b < 4; b++) {
                Banks x = new Banks();
                x.put(a, 5, 1);
                checks.due("settle of " + a + " and " + b, x.settle(a, b, 1), a == b ? Face.BAD : 1);
                checks.due("sent", x.sent(), a == b ? 0 : 4 + 1 + 2);
                checks.due("version", x.version(b, 5), 2 + a % 2);
            }
        }
    }

    /**
     * "Exchanges with m, then with twice that, and so on (16 at most, where it would be more) as
     * long as they fail; when the one with 16 fails, a listing": all m, and 0 to 18 records that
     * only one has, so that those which fail do so by the sizes and send m + 3.
     */
    private static void growsAsLongAsTheyFail() {
        int[][] rows = {{1, 2, 4, 8, 16}, {2, 4, 8, 16}, {3, 6, 12, 16}, {4, 8, 16}, {5, 10, 16},
            {6, 12, 16}, {7, 14, 16}, {8, 16}, {9, 16}, {10, 16}, {11, 16}, {12, 16}, {13, 16},
            {14, 16}, {15, 16}, {16}};
        for (int[] reaches : rows) {
            for (int more = 0; more <= 18; more++) {
                checkGrowth(reaches, more, true);
                checkGrowth(reaches, more, false);
            }
        }
    }

    private static void checkGrowth(int[] reaches, int more, boolean inA) {
        Banks x = new Banks();
        Puts.range(x, 1, 0, 3 + more);
        Puts.range(x, 3, 0, 3);
        long sent = 0;
        boolean fails = true;
        for (int i = 0; fails && i < reaches.length; i++) {
            fails = more > reaches[i];
            sent += reaches[i] + 3 + (fails ? 0 : 3 * more);
        }
        if (fails) {
            sent += 2 * (3 + more + 3);
        }
        String name = "settle of " + more + " more with " + reaches[0];
        checks.due(name, inA ? x.settle(1, 3, reaches[0]) : x.settle(3, 1, reaches[0]), more);
        checks.due(name + ": sent", x.sent(), sent);
        checks.due(name + ": difference", x.difference(1, 3), 0);
        checks.due(name + ": degree of UP", x.degree(0), inA && !fails ? more : 0);
        checks.due(name + ": degree of LOW", x.degree(1), !inA && !fails ? more : 0);
    }

    /** As many in both, so that those which fail have found UP and LOW and send their degrees. */
    private static void growsByWhatIsFoundToo() {
        for (int each = 1; each <= 9; each++) {
            int own = each;
            for (int m = 1; m <= 16; m += 3) {
                int reach = m;
                Face.Story story = x -> {
                    Puts.range(x, 0, 0, own);
                    Puts.range(x, 3, 50, 50 + own);
                    x.settle(0, 3, reach);
                };
                checks.likeModel("settle of " + own + " each with " + m, story);
            }
        }
        Banks x = new Banks();
        Puts.range(x, 0, 0, 2);
        Puts.range(x, 2, 10, 12);
        checks.due("settle with 2", x.settle(0, 2, 2), 4);
        checks.due("sent: that with 2 found one each", x.sent(), 5 + 2 + 7 + 4 + 8);
    }

    /** "(16 at most, where it would be more)": sixteen records are found, with no listing. */
    private static void atMost16() {
        for (int m = 9; m <= 16; m++) {
            Banks x = new Banks();
            Puts.range(x, 0, 0, 16);
            checks.due("settle with " + m, x.settle(0, 1, m), 16);
            checks.due("sent", x.sent(), (m == 16 ? 0 : m + 3) + 19 + 16 + 32);
            checks.due("degree", x.degree(0), 16);
        }
    }

    /** "when the one with 16 fails, a listing": seventeen records are listed. */
    private static void listsWhenTheOneWith16Fails() {
        for (int m = 15; m <= 16; m++) {
            Banks x = new Banks();
            Puts.range(x, 0, 0, 17);
            checks.due("settle with " + m, x.settle(0, 1, m), 17);
            checks.due("sent", x.sent(), (m == 16 ? 0 : m + 3) + 19 + 34);
            checks.due("UP stays", x.degree(0), 0);
        }
        Banks x = new Banks();
        Puts.range(x, 0, 0, 9);
        Puts.range(x, 2, 20, 29);
        checks.due("nine each", x.settle(0, 2, 16), 18);
        checks.due("sent", x.sent(), 19 + 16 + 36);
        checks.due("difference", x.difference(0, 2), 0);
    }

    /** "What the last of these answers." */
    private static void answersWhatTheLastAnswers() {
        Banks x = new Banks();
        checks.due("settle of empty banks", x.settle(0, 1, 1), 0);
        Puts.times(x, 0, 5, 2);
        Puts.times(x, 1, 5, 1);
        checks.due("two words, one record", x.settle(0, 1, 1), 1);
        Puts.range(x, 0, 100, 117);
        Puts.range(x, 1, 100, 117);
        checks.due("settle by listing: bank 1's are the greater ones", x.settle(0, 1, 16), 17);
        checks.due("settle of equal banks", x.settle(1, 0, 16), 0);
    }

    /** "as long as they fail": one that is too great has not failed, so it is the last. */
    private static void endsWhenAnExchangeIsTooGreat() {
        Face.Story story = x -> {
            Puts.range(x, 0, 0, 64);
            Puts.range(x, 2, 1, 65);
        };
        checks.sendsInVain("settle with 2", story, x -> x.settle(0, 2, 2), Face.FULL, 5 + 2);
        checks.sendsInVain("settle with 1", story, x -> x.settle(0, 2, 1), Face.FULL, 4 + 5 + 2);
        checks.sendsInVain("settle with 16", story, x -> x.settle(2, 0, 16), Face.FULL, 19 + 2);
        Banks x = new Banks();
        Puts.range(x, 0, 0, 63);
        Puts.range(x, 2, 1, 64);
        checks.due("64 have room", x.settle(0, 2, 1), 2);
        checks.due("size", x.size(0), 64);
    }

    /** The listing in the end answers FULL; all that was sent counts. */
    private static void endsWhenTheListingIsTooGreat() {
        Face.Story story = x -> {
            x.put(3, 9, 9);
            x.exchange(3, 2, 1);
            Puts.range(x, 0, 0, 64);
            Puts.range(x, 1, 100, 103);
        };
        checks.findsNone("settle", story, x -> x.settle(1, 0, 8), Face.FULL, 11 + 19 + 2 * 67);
        checks.findsNone("settle", story, x -> x.settle(0, 1, 16), Face.FULL, 19 + 2 * 67);
        Banks x = new Banks();
        Puts.range(x, 0, 0, 61);
        Puts.range(x, 1, 100, 103);
        checks.due("64 have room", x.settle(1, 0, 8), 64);
        checks.due("size", x.size(1), 64);
        checks.due("sent", x.sent(), 11 + 19 + 2 * 64);
    }
}
