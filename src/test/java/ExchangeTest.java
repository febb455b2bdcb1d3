import java.math.BigInteger;

/** Promises 9, 14, 15 and 16: an exchange, what it sends, and its UP and LOW. */
public final class ExchangeTest {
    private static final long PRIME = 2147483647L;
    private static final Checks checks = new Checks();

    public static void main(String[] args) {
        wrongArguments();
        equalBanks();
        oneEachWay();
        greaterVersionsWin();
        sameWordsAreNotLookedBehind();
        dropsAreTakenOver();
        allReaches();
        tooFewPoints();
        sizesTooFarApart();
        roomEnds();
        versionsInFullBanks();
        noFraction();
        commonZeroAtAPoint();
        lastPointIsLookedAt();
        furtherPointsAreNotLookedAt();
        zerosMustBeWords();
        partsOfWrongNames();
        checks.finish();
    }

    private static void wrongArguments() {
        SampledBanks x = new SampledBanks();
        x.put(0, 1, 1);
        for (int bank : new int[] {-1, 4, Integer.MIN_VALUE, Integer.MAX_VALUE}) {
            checks.due("exchange with no bank", x.exchange(0, bank, 3), -1);
            checks.due("exchange of no bank", x.exchange(bank, 0, 3), -1);
        }
        for (int bank = 0; bank < 4; bank++) {
            checks.due("exchange with itself", x.exchange(bank, bank, 3), -1);
        }
        for (int m : new int[] {0, -1, 17, Integer.MIN_VALUE, Integer.MAX_VALUE}) {
            checks.due("exchange with m " + m, x.exchange(0, 1, m), -1);
        }
        checks.due("nothing sent", x.sent(), 0);
        checks.due("nothing taken over", x.size(1), 0);
        checks.due("no new UP", x.degree(0), 0);
    }

    private static void equalBanks() {
        SampledBanks x = new SampledBanks();
        long sent = 0;
        for (int i = 0; i < 10; i++) {
            x.put(0, i, i);
            x.put(2, i, i);
        }
        for (int m = 1; m <= 16; m++) {
            checks.due("exchange of equal banks", x.exchange(0, 2, m), 0);
            sent += m + 3;
            checks.due("sent", x.sent(), sent);
            parts(x, new int[] {}, new int[] {});
        }
    }

    private static void oneEachWay() {
        SampledBanks x = new SampledBanks();
        x.put(0, 5, 15);
        x.put(1, 31, 93);
        checks.due("exchange", x.exchange(0, 1, 2), 2);
        checks.due("sent", x.sent(), 5 + 2 + 4);
        parts(x, new int[] {5 * 1024 + 2}, new int[] {31 * 1024 + 3});
        checks.due("factor of UP", x.factor(0, 0), PRIME - 5122);
        checks.due("factor of LOW", x.factor(1, 0), PRIME - 31747);
        for (int bank = 0; bank < 2; bank++) {
            checks.due("size", x.size(bank), 2);
            checks.due("grams", x.grams(bank, 5), 15);
            checks.due("grams", x.grams(bank, 31), 93);
            checks.due("version", x.version(bank, 5), 2);
            checks.due("version", x.version(bank, 31), 3);
        }
    }

    private static void greaterVersionsWin() {
        SampledBanks x = new SampledBanks();
        x.put(0, 5, 1);
        x.put(1, 5, 2);
        x.put(0, 6, 3);
        x.put(0, 6, 4);
        x.put(1, 6, 5);
        checks.due("exchange", x.exchange(1, 0, 4), 2);
        checks.due("sent: only what is taken over counts", x.sent(), 7 + 4 + 4);
        checks.due("the same count: the odd bank's is greater", x.version(0, 5), 3);
        checks.due("its grams", x.grams(0, 5), 2);
        checks.due("the higher count", x.version(1, 6), 4);
        checks.due("its grams", x.grams(1, 6), 4);
        checks.due("the greater one stays", x.version(1, 5), 3);
        checks.due("the greater one stays", x.version(0, 6), 4);
        parts(x, new int[] {5123, 6147}, new int[] {5122, 6148});
    }

    private static void sameWordsAreNotLookedBehind() {
        SampledBanks x = new SampledBanks();
        x.put(0, 5, 1);
        x.put(2, 5, 9);
        x.put(0, 6, 1);
        x.drop(0, 6);
        x.put(2, 6, 1);
        x.put(2, 6, 2);
        checks.due("exchange of the same words", x.exchange(0, 2, 1), 0);
        checks.due("listing of the same words", x.list(0, 2), 0);
        checks.due("grams stay", x.grams(0, 5), 1);
        checks.due("grams stay", x.grams(2, 5), 9);
        checks.due("dropped stays", x.version(0, 6), -4);
        checks.due("not dropped stays", x.version(2, 6), 4);
    }

    private static void dropsAreTakenOver() {
        SampledBanks x = new SampledBanks();
        x.put(0, 5, 1);
        x.put(0, 6, 6);
        x.drop(0, 6);
        checks.due("exchange", x.exchange(0, 3, 2), 2);
        checks.due("dropped too", x.version(3, 6), -4);
        checks.due("with its grams", x.grams(3, 6), 6);
        x.drop(3, 5);
        checks.due("exchange", x.exchange(0, 3, 2), 1);
        checks.due("dropped by the other", x.version(0, 5), -5);
    }

    /** All numbers of records that only one has, with all m: it succeeds as soon as m reaches them. */
    private static void allReaches() {
        for (int onlyA = 0; onlyA <= 9; onlyA++) {
            for (int onlyB = 0; onlyB <= 9; onlyB++) {
                for (int m = 1; m <= 16; m++) {
                    oneReach(onlyA, onlyB, m);
                }
            }
        }
    }

    private static void oneReach(int onlyA, int onlyB, int m) {
        SampledBanks x = new SampledBanks();
        for (int i = 0; i < 3; i++) {
            x.put(1, 9990 + i, i);
            x.put(3, 9990 + i, i);
        }
        int[] wordsA = new int[onlyA];
        int[] wordsB = new int[onlyB];
        for (int i = 0; i < onlyA; i++) {
            x.put(1, 1000 * i + 1, i);
            wordsA[i] = (1000 * i + 1) * 1024 + 3;
        }
        for (int i = 0; i < onlyB; i++) {
            x.put(3, 1000 * i + 2, i);
            wordsB[i] = (1000 * i + 2) * 1024 + 3;
        }
        String name = onlyA + " and " + onlyB + " with " + m + ": ";
        boolean reached = onlyA + onlyB <= m;
        int answer = x.exchange(1, 3, m);
        checks.due(name + "exchange", answer, reached ? onlyA + onlyB : -4);
        checks.due(name + "difference", x.difference(1, 3), reached ? 0 : onlyA + onlyB);
        if (reached) {
            parts(x, wordsA, wordsB);
            checks.due(name + "sent", x.sent(), m + 3 + 3 * (onlyA + onlyB));
        } else if (Math.abs(onlyA - onlyB) > m) {
            checks.due(name + "sent", x.sent(), m + 3);
            parts(x, new int[] {}, new int[] {});
        } else {
            checks.due(name + "sent", x.sent(), m + 3 + x.degree(0) + x.degree(1));
        }
    }

    private static void tooFewPoints() {
        SampledBanks x = new SampledBanks();
        x.put(0, 1, 1);
        x.put(0, 2, 1);
        x.put(1, 3, 1);
        checks.due("exchange with 1", x.exchange(0, 1, 1), -4);
        checks.due("UP is found though it failed", x.degree(0), 1);
        checks.due("LOW is found though it failed", x.degree(1), 0);
        // At point 0, UP = point - c has to be a's sample over b's, so c is known by hand.
        long ratio = x.sample(0, 0) * inverse(x.sample(1, 0)) % PRIME;
        checks.due("factor of UP", x.factor(0, 0), (ratio + PRIME - 1073741824L) % PRIME);
        checks.due("sent", x.sent(), 4 + 1);
        checks.due("nothing taken over", x.difference(0, 1), 3);
        checks.due("exchange with 2", x.exchange(0, 1, 2), -4);
        checks.due("sent: one point less is used", x.sent(), 5 + 5 + 1);
        checks.due("exchange with 3", x.exchange(0, 1, 3), 3);
        checks.due("sent", x.sent(), 11 + 6 + 3 + 6);
    }

    private static void sizesTooFarApart() {
        SampledBanks x = new SampledBanks();
        x.put(2, 9, 9);
        x.exchange(2, 3, 1);
        parts(x, new int[] {9 * 1024 + 2}, new int[] {});
        long sent = x.sent();
        for (int i = 0; i < 5; i++) {
            x.put(0, i, i);
        }
        checks.due("too many in a", x.exchange(0, 1, 4), -4);
        checks.due("too many in b", x.exchange(1, 0, 4), -4);
        checks.due("sent all the same", x.sent(), sent + 14);
        parts(x, new int[] {9 * 1024 + 2}, new int[] {});
        checks.due("just as many as m, in b", x.exchange(1, 0, 5), 5);
        parts(x, new int[] {}, new int[] {2, 1026, 2050, 3074, 4098});
    }

    private static void roomEnds() {
        SampledBanks x = new SampledBanks();
        for (int i = 0; i < 64; i++) {
            x.put(0, i, 1);
            x.put(2, i + 1, 2);
        }
        long sent = x.sent();
        checks.due("both would have 65", x.exchange(0, 2, 2), -3);
        checks.due("sent without records", x.sent(), sent + 5 + 2);
        checks.due("size stays", x.size(0), 64);
        checks.due("size stays", x.size(2), 64);
        checks.due("nothing taken over", x.difference(0, 2), 2);
        parts(x, new int[] {2}, new int[] {64 * 1024 + 2});

        x = new SampledBanks();
        for (int i = 0; i < 64; i++) {
            x.put(0, i, 1);
        }
        for (int i = 0; i < 62; i++) {
            x.put(2, i, 1);
        }
        x.put(2, 100, 1);
        checks.due("both would have 65, from 64 and 63", x.exchange(0, 2, 3), -3);
        checks.due("nothing taken over", x.size(2), 63);
        checks.due("both would have 65, from 63 and 64", x.exchange(2, 0, 3), -3);
        checks.due("nothing taken over", x.difference(0, 2), 3);

        x = new SampledBanks();
        for (int i = 0; i < 63; i++) {
            x.put(0, i, 1);
            x.put(2, i + 1, 1);
        }
        checks.due("64 have room", x.exchange(0, 2, 2), 2);
        checks.due("size", x.size(0), 64);
        checks.due("size", x.size(2), 64);
    }

    private static void versionsInFullBanks() {
        SampledBanks x = new SampledBanks();
        for (int i = 0; i < 64; i++) {
            x.put(0, i, 1);
            x.put(2, i, 1);
        }
        x.put(0, 0, 5);
        x.drop(2, 63);
        checks.due("new versions need no room", x.exchange(0, 2, 4), 2);
        checks.due("size", x.size(0), 64);
        checks.due("grams", x.grams(2, 0), 5);
        checks.due("dropped", x.version(0, 63), -4);
        checks.due("difference", x.difference(0, 2), 0);
    }

    /** For these banks a's sample over b's is the same at points 0 and 1, but not 1. */
    private static void noFraction() {
        SampledBanks x = new SampledBanks();
        x.put(1, 9, 9);
        checks.due("exchange", x.exchange(1, 3, 1), 1);
        long sent = x.sent();
        putAll(x, 0, 2, 768);
        putAll(x, 2, 3, 512);
        checks.due("there are no U and L", x.exchange(0, 2, 2), -4);
        checks.due("sent without degrees", x.sent(), sent + 5);
        parts(x, new int[] {9 * 1024 + 3}, new int[] {});
        checks.due("there are none with 3 either", x.exchange(2, 0, 3), -4);
        checks.due("sent without degrees", x.sent(), sent + 11);
        checks.due("with 4 there are", x.settle(0, 2, 3), 4);
        checks.due("sent", x.sent(), sent + 17 + 9 + 4 + 8);
    }

    /**
     * Samples that are the same at one of the two points: U and L are both the point's less the
     * other one, which falls away, so that UP and LOW are 1 and do not fit there.
     */
    private static void commonZeroAtAPoint() {
        SampledBanks x = new SampledBanks();
        putAll(x, 0, 20, 770);
        putAll(x, 2, 766, 1389);
        checks.due("the same sample", x.sample(0, 0) - x.sample(2, 0), 0);
        checks.due("with 1 it fails at point 1", x.exchange(0, 2, 1), -4);
        checks.due("with 2 it fails at point 1", x.exchange(0, 2, 2), -4);
        parts(x, new int[] {}, new int[] {});
        checks.due("sent", x.sent(), 4 + 5);

        x = new SampledBanks();
        putAll(x, 0, 20, 129);
        putAll(x, 2, 705, 1491);
        checks.due("the same sample", x.sample(0, 1) - x.sample(2, 1), 0);
        checks.due("with 2 it fails at point 0", x.exchange(0, 2, 2), -4);
        parts(x, new int[] {}, new int[] {});
        checks.due("sent", x.sent(), 5);
    }

    /** The samples of these banks are the same at points 0 and 1 but not at point 2. */
    private static void lastPointIsLookedAt() {
        SampledBanks x = new SampledBanks();
        putAll(x, 0, 1293, 2981, 2670, 5109);
        putAll(x, 2, 331, 5309, 41, 233);
        checks.due("exchange", x.exchange(0, 2, 1), -4);
        checks.due("sent", x.sent(), 4);
        checks.due("put", x.put(0, 9000, 1), 2);
        checks.due("exchange with a word more", x.exchange(0, 2, 1), -4);
        parts(x, new int[] {9000 * 1024 + 2}, new int[] {});
        checks.due("exchange with a word more", x.exchange(2, 0, 1), -4);
        parts(x, new int[] {}, new int[] {9000 * 1024 + 2});
        checks.due("sent", x.sent(), 4 + 5 + 5);
    }

    /** The samples of these banks are the same at points 0, 1 and 2 but not at point 3. */
    private static void furtherPointsAreNotLookedAt() {
        SampledBanks x = lookAlikes();
        checks.due("exchange with 1 sees no difference", x.exchange(0, 2, 1), 0);
        checks.due("sent", x.sent(), 4);
        checks.due("difference", x.difference(0, 2), 16);
        checks.due("settle sees no difference", x.settle(0, 2, 1), 0);
        checks.due("exchange with 2 does", x.exchange(0, 2, 2), -4);
        parts(x, new int[] {}, new int[] {});
        checks.due("sent", x.sent(), 4 + 4 + 5);
        x.put(0, 9000, 1);
        checks.due("the word more is taken over", x.exchange(2, 0, 1), 1);
        parts(x, new int[] {}, new int[] {9000 * 1024 + 2});
        checks.due("version", x.version(2, 9000), 2);
        checks.due("difference", x.difference(0, 2), 16);
        checks.due("settle with 3 lists in the end", x.settle(0, 2, 3), 16);
        checks.due("difference", x.difference(0, 2), 0);
    }

    /** UP or LOW fits at all points that are looked at, but its zero is a word that nobody has. */
    private static void zerosMustBeWords() {
        SampledBanks x = new SampledBanks();
        putAll(x, 0, 5968, 6160, 1529, 1529, 1579, 1579, 1579);
        putAll(x, 0, 4371, 4371, 8873, 8873, 2098, 5278, 5278, 5278);
        putAll(x, 2, 6249, 6249, 6249, 9569, 9569, 2250, 2250, 2250);
        putAll(x, 2, 2024, 3630, 4057, 4057, 5574);
        checks.due("one less", x.size(0) - x.size(2), 1);
        checks.due("UP's zero is no word of a", x.exchange(0, 2, 1), -4);
        parts(x, new int[] {617 * 1024 + 2}, new int[] {});
        checks.due("LOW's zero is no word of b", x.exchange(2, 0, 1), -4);
        parts(x, new int[] {}, new int[] {617 * 1024 + 2});
        checks.due("sent", x.sent(), 5 + 5);
        checks.due("nothing taken over", x.difference(0, 2), 15);
    }

    private static SampledBanks lookAlikes() {
        SampledBanks x = new SampledBanks();
        putAll(x, 0, 5968, 6160, 1529, 1529, 1579, 1579, 1579);
        putAll(x, 0, 4371, 4371, 8873, 8873, 2098, 5278, 5278, 5278);
        putAll(x, 2, 6249, 6249, 6249, 9569, 9569, 617, 2250, 2250, 2250);
        putAll(x, 2, 2024, 3630, 4057, 4057, 5574);
        for (int k = 0; k < 4; k++) {
            checks.holds("samples at point " + k, (x.sample(0, k) == x.sample(2, k)) == (k < 3));
        }
        return x;
    }

    private static void partsOfWrongNames() {
        SampledBanks x = new SampledBanks();
        x.put(0, 1, 1);
        x.put(0, 2, 1);
        x.exchange(0, 1, 2);
        for (int what : new int[] {-1, 2, Integer.MIN_VALUE, Integer.MAX_VALUE}) {
            checks.due("degree of " + what, x.degree(what), -1);
            checks.due("factor of " + what, x.factor(what, 0), -1);
        }
        for (int i : new int[] {-1, 3, 16, 17, Integer.MIN_VALUE, Integer.MAX_VALUE}) {
            checks.due("factor " + i, x.factor(0, i), -1);
        }
        checks.due("factor 1 of LOW", x.factor(1, 1), -1);
        checks.due("factor 2 of UP", x.factor(0, 2), 1);
    }

    private static void putAll(SampledBanks x, int bank, int... numbers) {
        for (int number : numbers) {
            x.put(bank, number, number);
        }
    }

    /** UP and LOW are the products of (x - word) for these words. */
    private static void parts(SampledBanks x, int[] up, int[] low) {
        part(x, 0, up);
        part(x, 1, low);
    }

    private static void part(SampledBanks x, int what, int[] zeros) {
        long[] factors = new long[zeros.length + 1];
        factors[0] = 1;
        for (int n = 0; n < zeros.length; n++) {
            for (int i = n + 1; i >= 0; i--) {
                long lower = i == 0 ? 0 : factors[i - 1];
                factors[i] = (lower + (PRIME - zeros[n]) * factors[i]) % PRIME;
            }
        }
        checks.due("degree of part " + what, x.degree(what), zeros.length);
        for (int i = 0; i <= zeros.length; i++) {
            checks.due("factor " + i + " of part " + what, x.factor(what, i), factors[i]);
        }
        checks.due("factor behind part " + what, x.factor(what, zeros.length + 1), -1);
    }

    private static long inverse(long x) {
        return BigInteger.valueOf(x).modInverse(BigInteger.valueOf(PRIME)).longValue();
    }
}
