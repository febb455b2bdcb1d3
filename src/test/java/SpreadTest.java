/**
 * Promise 12: all four banks are settled two by two. Each method stands for the sentence above it.
 */
public final class SpreadTest {
    private static final int GROWING = 4 + 5 + 7 + 11 + 19;
    private static final Checks checks = new Checks();

    public static void main(String[] args) {
        refusesM();
        takesLeastAndGreatestM();
        settlesInOrder();
        sumsWhatWasTakenOver();
        roomFor64();
        fullAtTheFirst();
        fullAtTheSecond();
        fullAtTheThird();
        partsOfTheOneThatIsTooGreat();
        partsOfTheFourth();
        checks.finish();
    }

    /** "BAD when m is not 1 .. 16." */
    private static void refusesM() {
        Face.Story story = x -> {
            Puts.all(x, 0, 1, 2);
            x.exchange(0, 1, 2);
            x.put(3, 5, 5);
        };
        for (int m : Beyond.REACHES) {
            checks.refused("spread with m " + m, story, x -> x.spread(m), Face.BAD);
            checks.refused("of nothing with m " + m, x -> { }, x -> x.spread(m), Face.BAD);
        }
    }

    private static void takesLeastAndGreatestM() {
        for (int m = 1; m <= 16; m++) {
            Banks x = new Banks();
            checks.due("spread of nothing with " + m, x.spread(m), 0);
            checks.due("sent", x.sent(), 5 * (m + 3));
            x.put(3, 5, 5);
            checks.due("spread of one record with " + m, x.spread(m), 3);
            checks.due("sent", x.sent(), 10 * (m + 3) + 9);
            checks.due("version", x.version(1, 5), 3);
        }
    }

    /** "the banks 0 and 1, 2 and 3, 0 and 2, then 2 and 3, 0 and 1". */
    private static void settlesInOrder() {
        int[][] pairs = {{0, 1}, {2, 3}, {0, 2}, {2, 3}, {0, 1}};
        for (int m : new int[] {1, 2, 5, 16}) {
            Face.Story story = x -> {
                Puts.all(x, 0, 1, 2, 2, 3);
                Puts.all(x, 1, 10, 2);
                Puts.all(x, 2, 20, 21, 3, 3);
                Puts.all(x, 3, 30, 31, 32, 1);
                x.drop(3, 30);
            };
            Face.Story bySettling = x -> {
                story.tell(x);
                for (int[] pair : pairs) {
                    x.settle(pair[0], pair[1], m);
                }
            };
            State spread = State.after(story.then(x -> x.spread(m)));
            checks.same("spread with " + m, spread, State.after(bySettling));
            checks.likeModel("spread with " + m, story.then(x -> x.spread(m)));
        }
        Banks x = new Banks();
        x.put(1, 10, 1);
        x.put(3, 30, 3);
        checks.due("spread", x.spread(1), 6);
        checks.due("sent", x.sent(), 7 + 7 + 4 + 11 + 7 + 7);
        for (int bank = 0; bank < 4; bank++) {
            checks.due("size", x.size(bank), 2);
            checks.due("grams", x.grams(bank, 10), 1);
            checks.due("grams", x.grams(bank, 30), 3);
        }
        // The last one is that of 0 and 1, where 0 has the record of 3 by then.
        checks.due("degree of UP", x.degree(0), 1);
        checks.due("factor of UP", x.factor(0, 0), 2147483647 - (30 * 1024 + 3));
        checks.due("degree of LOW", x.degree(1), 0);
    }

    /** "how many records were taken over in all", by exchanges and by listings. */
    private static void sumsWhatWasTakenOver() {
        Banks x = new Banks();
        for (int bank = 0; bank < 4; bank++) {
            x.put(bank, bank, bank);
        }
        checks.due("one in each", x.spread(4), 12);
        checks.due("spread again", x.spread(1), 0);
        Puts.range(x, 1, 100, 117);
        long sent = x.sent();
        checks.due("three listings", x.spread(16), 51);
        checks.due("sent", x.sent() - sent, 5 * 19 + 3 * 2 * (4 + 21));
        for (int bank = 1; bank < 4; bank++) {
            checks.due("difference", x.difference(0, bank), 0);
        }
    }

    /** 64 records in all have room in each of the banks. */
    private static void roomFor64() {
        Banks x = new Banks();
        for (int bank = 0; bank < 4; bank++) {
            Puts.range(x, bank, 16 * bank, 16 * bank + 16);
        }
        checks.due("spread", x.spread(16), 64 * 3);
        for (int bank = 0; bank < 4; bank++) {
            checks.due("size", x.size(bank), 64);
        }
    }

    /** "FULL as soon as one is too great": the others are not settled then. */
    private static void fullAtTheFirst() {
        Face.Story byListing = x -> {
            Puts.range(x, 0, 0, 64);
            x.put(1, 9000, 1);
            x.put(3, 9001, 1);
        };
        checks.findsNone("spread", byListing, x -> x.spread(16), Face.FULL, 19 + 130);
        checks.findsNone("spread", byListing, x -> x.spread(1), Face.FULL, GROWING + 130);
        Face.Story byExchange = x -> {
            Puts.range(x, 0, 0, 63);
            x.list(0, 1);
            x.put(0, 9000, 1);
            x.put(1, 9001, 1);
            x.put(3, 9002, 1);
        };
        checks.sendsInVain("spread", byExchange, x -> x.spread(2), Face.FULL, 5 + 2);
    }

    /** "(what was taken over before stays)": that of 0 and 1. */
    private static void fullAtTheSecond() {
        Banks x = new Banks();
        x.put(1, 7, 1);
        Puts.range(x, 3, 0, 64);
        x.put(2, 9000, 1);
        checks.due("spread", x.spread(1), Face.FULL);
        checks.due("sent", x.sent(), 4 + 3 + GROWING + 130);
        checks.due("what was taken over before stays", x.version(0, 7), 3);
        checks.due("nothing is taken over by 2", x.size(2), 1);
        checks.due("nothing is taken over by 3", x.size(3), 64);
        checks.due("0 and 2 are not settled", x.size(0), 1);
    }

    /** "(what was taken over before stays)": that of 0 and 1, and of 2 and 3. */
    private static void fullAtTheThird() {
        Banks x = new Banks();
        Puts.range(x, 0, 0, 64);
        x.put(3, 9000, 1);
        checks.due("spread", x.spread(1), Face.FULL);
        checks.due("what was taken over before stays", x.size(1), 64);
        checks.due("what was taken over before stays", x.version(2, 9000), 3);
        checks.due("nothing more", x.size(0), 64);
        checks.due("nothing more", x.size(2), 1);
        checks.due("nothing more", x.size(3), 1);
        checks.due("sent", x.sent(), GROWING + 128 + 7 + GROWING + 130);

        x = new Banks();
        for (int bank = 0; bank < 4; bank++) {
            Puts.range(x, bank, 16 * bank, 16 * bank + (bank == 3 ? 17 : 16));
        }
        checks.due("65 in all", x.spread(16), Face.FULL);
        checks.due("size of 0", x.size(0), 32);
        checks.due("size of 1", x.size(1), 32);
        checks.due("size of 2", x.size(2), 33);
        checks.due("size of 3", x.size(3), 33);
    }

    /** The pairs in their order: UP is of the first named, when an exchange is too great. */
    private static void partsOfTheOneThatIsTooGreat() {
        int[][] pairs = {{0, 1}, {2, 3}, {0, 2}};
        for (int[] pair : pairs) {
            int a = pair[0];
            int b = pair[1];
            Face.Story story = x -> {
                Puts.range(x, a, 0, 63);
                x.list(a, b);
                x.put(a, 9000, 1);
                x.put(b, 9001, 1);
                if (b == 2) {
                    x.list(0, 1);
                    x.list(2, 3);
                }
            };
            int[] up = {9000 * 1024 + 2 + a % 2};
            int[] low = {9001 * 1024 + 2 + b % 2};
            long before = b == 1 ? 0 : b == 3 ? 5 : 5 + 5;
            String name = "spread, too great in " + a + " and " + b;
            checks.sendsInVain(name, story, x -> x.spread(2), Face.FULL, before + 5 + 2);
            checks.parts(name, story.then(x -> x.spread(2)), up, low);
        }
    }

    /** "then 2 and 3": as 0 and 1 are listed in the end, UP and LOW are still those of 2 and 3. */
    private static void partsOfTheFourth() {
        Face.Story story = x -> {
            x.put(0, 9000, 1);
            Puts.range(x, 2, 0, 18);
            x.spread(16);
        };
        Banks x = new Banks();
        story.tell(x);
        checks.due("size", x.size(1), 19);
        checks.due("sent", x.sent(), (19 + 3) + (19 + 36) + (19 + 38) + (19 + 3) + (19 + 40));
        checks.parts("of 2 and 3", story, new int[] {9000 * 1024 + 2}, new int[] {});
    }
}
