/** Promises 10 to 12 and 14: listings, settling, spreading, and what they send. */
public final class SettleTest {
    private static final int[] NO_BANKS = {-1, 4, Integer.MIN_VALUE, Integer.MAX_VALUE};
    private static final int[] NO_REACHES = {0, -1, 17, Integer.MIN_VALUE, Integer.MAX_VALUE};
    private static final Checks checks = new Checks();

    public static void main(String[] args) {
        wrongArguments();
        listingBothWays();
        listingOfNothing();
        listingWithoutRoom();
        listingToTheLastRoom();
        settleGrows();
        settleEndsWithTheFirstThatDoesNotFail();
        settleEndsWhenTooGreat();
        settleListsWithoutRoom();
        spreadGoesAllWays();
        spreadOfEqualBanks();
        spreadWithoutRoom();
        spreadWithoutRoomAtOnce();
        checks.finish();
    }

    private static void wrongArguments() {
        SampledBanks x = new SampledBanks();
        x.put(0, 1, 1);
        for (int bank : NO_BANKS) {
            checks.due("list with no bank", x.list(0, bank), -1);
            checks.due("list of no bank", x.list(bank, 0), -1);
            checks.due("settle with no bank", x.settle(0, bank, 3), -1);
            checks.due("settle of no bank", x.settle(bank, 0, 3), -1);
        }
        for (int bank = 0; bank < 4; bank++) {
            checks.due("list with itself", x.list(bank, bank), -1);
            checks.due("settle with itself", x.settle(bank, bank, 3), -1);
        }
        for (int m : NO_REACHES) {
            checks.due("settle with m " + m, x.settle(0, 1, m), -1);
            checks.due("spread with m " + m, x.spread(m), -1);
        }
        checks.due("nothing sent", x.sent(), 0);
        checks.due("nothing taken over", x.size(1), 0);
    }

    private static void listingBothWays() {
        SampledBanks x = new SampledBanks();
        x.put(0, 1, 10);
        x.put(0, 2, 20);
        x.put(0, 3, 30);
        x.drop(0, 3);
        x.put(1, 2, 21);
        x.put(1, 3, 31);
        x.put(1, 4, 41);
        checks.due("list", x.list(0, 1), 4);
        checks.due("sent", x.sent(), 12);
        for (int bank = 0; bank < 2; bank++) {
            checks.due("size", x.size(bank), 4);
            checks.due("what the other has not", x.version(bank, 1), 2);
            checks.due("the greater version", x.version(bank, 2), 3);
            checks.due("its grams", x.grams(bank, 2), 21);
            checks.due("the greater version, dropped", x.version(bank, 3), -4);
            checks.due("its grams", x.grams(bank, 3), 30);
            checks.due("what the other has not", x.grams(bank, 4), 41);
        }
        checks.due("list again", x.list(1, 0), 0);
        checks.due("sent again", x.sent(), 28);
        checks.due("UP stays", x.degree(0), 0);
    }

    private static void listingOfNothing() {
        SampledBanks x = new SampledBanks();
        checks.due("list", x.list(2, 3), 0);
        checks.due("sent", x.sent(), 0);
    }

    private static void listingWithoutRoom() {
        SampledBanks x = new SampledBanks();
        putRange(x, 0, 0, 64);
        putRange(x, 2, 0, 3);
        x.put(2, 0, 77);
        x.put(2, 100, 1);
        checks.due("list", x.list(2, 0), -3);
        checks.due("sent", x.sent(), 2 * 68);
        checks.due("nothing taken over", x.size(2), 4);
        checks.due("nothing taken over", x.version(0, 0), 2);
        checks.due("list the other way", x.list(0, 2), -3);
        checks.due("sent", x.sent(), 4 * 68);
    }

    private static void listingToTheLastRoom() {
        SampledBanks x = new SampledBanks();
        putRange(x, 0, 0, 40);
        putRange(x, 2, 24, 64);
        checks.due("list", x.list(0, 2), 48);
        checks.due("size", x.size(0), 64);
        checks.due("size", x.size(2), 64);
        checks.due("difference", x.difference(0, 2), 0);
        x.put(0, 5, 99);
        checks.due("new versions need no room", x.list(0, 2), 1);
        checks.due("grams", x.grams(2, 5), 99);
    }

    /** Each exchange fails by the sizes alone, so it sends m + 3, and a listing 40. */
    private static void settleGrows() {
        int[][] reaches = {{1, 2, 4, 8, 16}, {2, 4, 8, 16}, {3, 6, 12, 16}, {4, 8, 16}, {5, 10, 16},
            {6, 12, 16}, {7, 14, 16}, {8, 16}, {9, 16}, {15, 16}, {16}};
        for (int[] row : reaches) {
            SampledBanks x = new SampledBanks();
            putRange(x, 3, 0, 20);
            long sent = 40;
            for (int m : row) {
                sent += m + 3;
            }
            checks.due("settle with " + row[0], x.settle(1, 3, row[0]), 20);
            checks.due("sent with " + row[0], x.sent(), sent);
            checks.due("size", x.size(1), 20);
        }
    }

    private static void settleEndsWithTheFirstThatDoesNotFail() {
        SampledBanks x = new SampledBanks();
        putRange(x, 0, 0, 3);
        checks.due("settle", x.settle(0, 1, 1), 3);
        checks.due("sent", x.sent(), 4 + 5 + 7 + 3 + 6);
        checks.due("degree", x.degree(0), 3);
        checks.due("settle again", x.settle(1, 0, 16), 0);
        checks.due("sent", x.sent(), 25 + 19);
        putRange(x, 0, 100, 116);
        checks.due("settle", x.settle(0, 1, 16), 16);
        checks.due("sent", x.sent(), 44 + 19 + 16 + 32);
        putRange(x, 0, 200, 217);
        checks.due("one more needs a listing", x.settle(0, 1, 16), 17);
        checks.due("sent", x.sent(), 111 + 19 + 2 * (36 + 19));
    }

    private static void settleEndsWhenTooGreat() {
        SampledBanks x = new SampledBanks();
        putRange(x, 0, 0, 64);
        putRange(x, 2, 1, 65);
        checks.due("settle", x.settle(0, 2, 1), -3);
        checks.due("sent: it was not listed", x.sent(), 4 + 5 + 2);
        checks.due("difference", x.difference(0, 2), 2);
    }

    private static void settleListsWithoutRoom() {
        SampledBanks x = new SampledBanks();
        putRange(x, 0, 0, 64);
        putRange(x, 1, 100, 103);
        checks.due("settle", x.settle(1, 0, 8), -3);
        checks.due("sent", x.sent(), 11 + 19 + 2 * 67);
        checks.due("size", x.size(1), 3);
    }

    private static void spreadGoesAllWays() {
        SampledBanks x = new SampledBanks();
        x.put(1, 10, 1);
        x.put(3, 30, 3);
        checks.due("spread", x.spread(1), 6);
        checks.due("sent", x.sent(), 7 + 7 + 4 + 11 + 7 + 7);
        for (int bank = 0; bank < 4; bank++) {
            checks.due("size", x.size(bank), 2);
            checks.due("grams", x.grams(bank, 10), 1);
            checks.due("grams", x.grams(bank, 30), 3);
        }
        // The last exchange is that of 0 and 1, where 0 has the record of 3.
        checks.due("degree of UP", x.degree(0), 1);
        checks.due("factor of UP", x.factor(0, 0), 2147483647 - (30 * 1024 + 3));
        checks.due("degree of LOW", x.degree(1), 0);
    }

    private static void spreadOfEqualBanks() {
        SampledBanks x = new SampledBanks();
        checks.due("spread of nothing", x.spread(16), 0);
        checks.due("sent", x.sent(), 5 * 19);
        for (int bank = 0; bank < 4; bank++) {
            x.put(bank, bank, bank);
        }
        checks.due("spread", x.spread(4), 12);
        checks.due("spread again", x.spread(1), 0);
        for (int bank = 1; bank < 4; bank++) {
            checks.due("difference", x.difference(0, bank), 0);
        }
    }

    private static void spreadWithoutRoom() {
        SampledBanks x = new SampledBanks();
        putRange(x, 0, 0, 64);
        x.put(3, 9000, 1);
        checks.due("spread", x.spread(1), -3);
        checks.due("what was taken over stays", x.size(1), 64);
        checks.due("what was taken over stays", x.size(2), 1);
        checks.due("nothing more", x.size(3), 1);
        long growing = 4 + 5 + 7 + 11 + 19;
        checks.due("sent", x.sent(), growing + 128 + 7 + growing + 130);
    }

    private static void spreadWithoutRoomAtOnce() {
        SampledBanks x = new SampledBanks();
        putRange(x, 0, 0, 64);
        x.put(1, 9000, 1);
        x.put(3, 9001, 1);
        checks.due("spread", x.spread(16), -3);
        checks.due("sent", x.sent(), 19 + 130);
        checks.due("2 and 3 are not settled", x.size(2), 0);
    }

    private static void putRange(SampledBanks x, int bank, int from, int to) {
        for (int number = from; number < to; number++) {
            x.put(bank, number, 3 * number);
        }
    }
}
