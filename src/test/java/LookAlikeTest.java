import java.util.Arrays;

/**
 * Promise 9 and 'Terms' where chance plays a part: banks of other words whose samples are the same
 * at some of the points, found by search. They tell which points are looked at, and what happens
 * when the zeros are no words. Each method stands for the sentence above it.
 */
public final class LookAlikeTest {
    private static final int[] NO_ZEROS = {};
    private static final Checks checks = new Checks();

    /** Numbers to be put in banks 0 and 2, and the points below 6 where their samples are the same. */
    private record Pair(int[] inA, int[] inB, int... points) implements Face.Story {
        public void tell(Face x) {
            Puts.all(x, 0, inA);
            Puts.all(x, 2, inB);
        }

        boolean isAlikeAt(int k) {
            return Arrays.stream(points).anyMatch(point -> point == k);
        }

        boolean isAlikeUpTo(int k) {
            return k < 0 || isAlikeAt(k) && isAlikeUpTo(k - 1);
        }
    }

    private static final Pair AT_0 = new Pair(new int[] {20, 770}, new int[] {766, 1389}, 0);
    private static final Pair AT_1 = new Pair(new int[] {20, 129}, new int[] {705, 1491}, 1);
    private static final Pair AT_0_1 = new Pair(
            new int[] {1293, 2981, 2670, 5109}, new int[] {331, 5309, 41, 233}, 0, 1);
    private static final Pair AT_0_2 = new Pair(
            new int[] {1692, 3381, 2832, 4028, 6606, 7634, 8118, 1182, 259, 1914, 7848, 6260},
            new int[] {2998, 8996, 1685, 1056, 3202, 7514, 8904, 6146, 92, 1925, 2174, 8039}, 0, 2);
    private static final Pair AT_1_2 = new Pair(
            new int[] {8656, 3394, 6127, 4814, 5006, 3038, 9337, 6829, 7917, 6853, 4599, 5418},
            new int[] {5311, 1784, 4079, 1639, 2743, 6767, 9271, 3780, 4003, 4953, 1383, 9918}, 1, 2);
    private static final Pair AT_0_1_2 = new Pair(
            new int[] {5968, 6160, 1529, 1529, 1579, 1579, 1579, 4371, 4371, 8873, 8873, 2098,
                5278, 5278, 5278},
            new int[] {6249, 6249, 6249, 9569, 9569, 617, 2250, 2250, 2250, 2024, 3630, 4057, 4057,
                5574}, 0, 1, 2);
    private static final Pair AT_0_1_3 = new Pair(
            new int[] {2385, 536, 3392, 2139, 2175, 7119, 7430, 7997, 5205, 4489, 7701, 8712, 8980,
                8238, 5827, 9625, 4339, 189},
            new int[] {7465, 8086, 5475, 2765, 6111, 2445, 6891, 2313, 7424, 2773, 1844, 2939, 2951,
                1460, 8058, 5919, 562, 9163}, 0, 1, 3);
    private static final Pair AT_0_2_3 = new Pair(
            new int[] {5842, 5477, 8489, 7819, 4634, 6826, 8461, 9063, 2621, 2957, 3706, 887, 2187,
                1815, 5199, 584, 7623},
            new int[] {6692, 5735, 7369, 2324, 3254, 2815, 9516, 4958, 452, 3588, 7907, 6807, 6230,
                1179, 3896, 6127, 10}, 0, 2, 3);
    private static final Pair AT_1_2_3 = new Pair(
            new int[] {912, 5475, 3392, 9241, 1747, 6111, 7424, 2773, 8555, 6615, 8712, 2951, 1460,
                4461, 562, 4601, 4339, 189},
            new int[] {7119, 962, 7430, 5205, 7848, 7701, 2400, 1844, 5545, 8238, 1033, 9625, 5008,
                5954, 9163, 5571, 9513, 7770}, 1, 2, 3);
    private static final Pair AT_0_1_2_3 = new Pair(
            new int[] {2702, 6849, 3007, 231, 6079, 693, 8151, 6036, 380, 6575, 3062, 1222, 3417,
                9515, 2006, 7804, 9157, 8778, 5209, 439, 46, 1148, 1846, 2786},
            new int[] {6848, 7776, 3867, 9590, 7015, 1134, 7157, 7239, 5389, 1897, 2536, 2045, 2639,
                9044, 7699, 1162, 9177, 6357, 4783, 6333, 1528, 8053, 9018, 9363}, 0, 1, 2, 3);
    private static final Pair[] PAIRS = {AT_0, AT_1, AT_0_1, AT_0_2, AT_1_2, AT_0_1_2, AT_0_1_3,
        AT_0_2_3, AT_1_2_3, AT_0_1_2_3};

    /** A number that none of the banks has. */
    private static final int NEW = 9000;
    private static final int NEW_WORD = NEW * 1024 + 2;

    public static void main(String[] args) {
        alikeWhereTheySay();
        noFraction();
        foundAllTheSame();
        everyPointIsLookedAt();
        everyPointIsLookedAtWithAWordMore();
        noPointBehindIsLookedAt();
        settlingOfLookAlikes();
        zeroOfUpThatIsNoWord();
        zeroOfLowThatIsNoWord();
        someZerosThatAreNoWords();
        zeroThatBothHave();
        oneBankAloneIsTooGreat();
        spreadingOfLookAlikes();
        checks.finish();
    }

    private static void alikeWhereTheySay() {
        for (Pair pair : PAIRS) {
            Banks x = new Banks();
            pair.tell(x);
            checks.due("sizes", x.size(0) - x.size(2), 0);
            checks.due("no words in common", x.difference(0, 2), 2 * x.size(0));
            for (int k = 0; k < 6; k++) {
                boolean same = x.sample(0, k) == x.sample(2, k);
                checks.holds("samples at point " + k, same == pair.isAlikeAt(k));
            }
        }
    }

    /**
     * "(there may be none: it fails ...)": a's sample over b's is the same at the first points, but
     * not 1; so U and L would be the same in all but their highest factor. Nothing is found then.
     */
    private static void noFraction() {
        Pair atTwoPoints = new Pair(new int[] {2, 768}, new int[] {3, 512});
        Pair atFourPoints = new Pair(
                new int[] {7305, 5002, 9302, 4786, 4661, 4858, 8356, 633, 5988, 7170, 2132, 2368,
                    5854, 2967, 6744, 3191, 7446},
                new int[] {1782, 9662, 1334, 4831, 7102, 2648, 6477, 2906, 1450, 4478, 1889, 7362,
                    155, 6586, 5168, 2549, 4691});
        checkNoFraction(atTwoPoints, 3);
        checkNoFraction(atFourPoints, 7);
        Banks x = new Banks();
        atTwoPoints.tell(x);
        checks.due("settle goes on", x.settle(0, 2, 3), 4);
        checks.due("sent", x.sent(), 6 + 9 + 4 + 8);
    }

    /** There are none with 2 .. mostReach; with 1, and behind that, there are some again. */
    private static void checkNoFraction(Pair pair, int mostReach) {
        Face.Story story = x -> {
            x.put(1, 9, 9);
            x.exchange(1, 3, 1);
            pair.tell(x);
        };
        int[] earlier = {9 * 1024 + 3};
        for (int m = 2; m <= mostReach; m++) {
            int reach = m;
            checks.findsNone("none with " + m, story, x -> x.exchange(0, 2, reach), Face.FAILED, m + 3);
            checks.findsNone("none with " + m, story, x -> x.exchange(2, 0, reach), Face.FAILED, m + 3);
            checks.parts("none with " + m, story.then(x -> x.exchange(0, 2, reach)), earlier, NO_ZEROS);
        }
        checks.sendsInVain("found with 1", story, x -> x.exchange(0, 2, 1), Face.FAILED, 4);
        checks.parts("found with 1", story.then(x -> x.exchange(0, 2, 1)), NO_ZEROS, NO_ZEROS);
        checks.likeModel("found again", story.then(x -> x.exchange(0, 2, mostReach + 1)));
        checks.likeModel("found again", story.then(x -> x.exchange(2, 0, mostReach + 1)));
    }

    /** Samples whose quotient is the same at points 0 and 1 do not keep U and L from being found. */
    private static void foundAllTheSame() {
        Pair pair = new Pair(new int[] {0}, new int[] {1, 1536});
        int[] wordsA = {2};
        int[] wordsB = {1026, 1536 * 1024 + 2};
        for (int m = 3; m <= 16; m++) {
            int reach = m;
            for (int way = 0; way < 2; way++) {
                int a = 2 * way;
                Banks x = new Banks();
                pair.tell(x);
                checks.due("exchange with " + m, x.exchange(a, 2 - a, m), 3);
                checks.due("sent", x.sent(), m + 3 + 3 + 6);
            }
            checks.parts("with " + m, pair.then(x -> x.exchange(0, 2, reach)), wordsA, wordsB);
            checks.parts("with " + m, pair.then(x -> x.exchange(2, 0, reach)), wordsB, wordsA);
        }
    }

    /**
     * "If at one of the points 0 .. m + 1 UP times b's sample is not LOW times a's sample, it
     * fails": as well at the points that U and L were found from, when both have one as a zero.
     */
    private static void everyPointIsLookedAt() {
        for (Pair pair : PAIRS) {
            for (int m = 1; m <= 4; m++) {
                int reach = m;
                int answer = pair.isAlikeUpTo(m + 1) ? 0 : Face.FAILED;
                String name = "alike at " + Arrays.toString(pair.points) + " with " + m;
                if (m == 1 || m < 4 && (pair.isAlikeAt(0) || pair.isAlikeAt(1))) {
                    checks.sendsInVain(name, pair, x -> x.exchange(0, 2, reach), answer, m + 3);
                    checks.sendsInVain(name, pair, x -> x.exchange(2, 0, reach), answer, m + 3);
                    checks.parts(name, pair.then(x -> x.exchange(0, 2, reach)), NO_ZEROS, NO_ZEROS);
                }
                checks.likeModel(name, pair.then(x -> x.exchange(0, 2, reach)));
                checks.likeModel(name, pair.then(x -> x.exchange(2, 0, reach)));
            }
        }
    }

    /** The same with a word that one has more: it is found, and goes over if all points fit. */
    private static void everyPointIsLookedAtWithAWordMore() {
        int[] zero = {NEW_WORD};
        for (Pair pair : PAIRS) {
            Face.Story story = pair.then(x -> x.put(0, NEW, 1));
            for (int m = 1; m <= 3; m++) {
                int reach = m;
                boolean fits = pair.isAlikeUpTo(m + 1);
                String name = "one more, alike at " + Arrays.toString(pair.points) + " with " + m;
                if (fits) {
                    Banks x = new Banks();
                    story.tell(x);
                    checks.due(name, x.exchange(2, 0, m), 1);
                    checks.due(name + ": sent", x.sent(), m + 3 + 1 + 2);
                    checks.due(name + ": version", x.version(2, NEW), 2);
                } else if (m < 3 && pair.isAlikeAt(0)) {
                    checks.sendsInVain(name, story, x -> x.exchange(0, 2, reach), Face.FAILED, m + 4);
                    checks.sendsInVain(name, story, x -> x.exchange(2, 0, reach), Face.FAILED, m + 4);
                }
                if (fits || m < 3 && pair.isAlikeAt(0)) {
                    checks.parts(name, story.then(x -> x.exchange(0, 2, reach)), zero, NO_ZEROS);
                    checks.parts(name, story.then(x -> x.exchange(2, 0, reach)), NO_ZEROS, zero);
                }
                checks.likeModel(name, story.then(x -> x.exchange(2, 0, reach)));
            }
        }
    }

    /** "the points 0 .. m + 1": point m + 2 is not looked at, though UP and LOW do not fit there. */
    private static void noPointBehindIsLookedAt() {
        checks.sendsInVain("with 1", AT_0_1_2, x -> x.exchange(0, 2, 1), 0, 4);
        checks.sendsInVain("with 2", AT_0_1_2, x -> x.exchange(0, 2, 2), Face.FAILED, 5);
        checks.sendsInVain("with 2", AT_0_1_2_3, x -> x.exchange(0, 2, 2), 0, 5);
        checks.sendsInVain("with 3", AT_0_1_2_3, x -> x.exchange(0, 2, 3), Face.FAILED, 6);
        Banks x = new Banks();
        AT_0_1_2_3.tell(x);
        x.put(0, NEW, 1);
        x.put(2, NEW + 1, 1);
        checks.due("one each way", x.exchange(0, 2, 2), 2);
        checks.due("sent", x.sent(), 5 + 2 + 4);
        checks.due("size", x.size(0), 26);
        checks.due("the words that look alike stay", x.difference(0, 2), 48);
    }

    /** Promise 11: "as long as they fail": an exchange that sees no difference has not failed. */
    private static void settlingOfLookAlikes() {
        Banks x = new Banks();
        AT_0_1_2.tell(x);
        checks.due("settle with 1", x.settle(0, 2, 1), 0);
        checks.due("sent", x.sent(), 4);
        checks.due("difference", x.difference(0, 2), 16);
        checks.due("settle with 2", x.settle(0, 2, 2), 16);
        checks.due("difference", x.difference(0, 2), 0);
        x = new Banks();
        AT_0_1_2_3.tell(x);
        checks.due("settle with 2", x.settle(0, 2, 2), 0);
        checks.due("settle with 3", x.settle(0, 2, 3), 48);
        checks.due("difference", x.difference(0, 2), 0);
        checks.likeModel("settling", AT_0_1_2.then(y -> y.settle(0, 2, 2)));
        checks.likeModel("settling", AT_0_1_2_3.then(y -> y.settle(2, 0, 3)));
    }

    /** "If the words of a that are zeros of UP are not as many as its degree ... it fails." */
    private static void zeroOfUpThatIsNoWord() {
        Pair lessInB = without(AT_0_1_2, new int[] {}, new int[] {617});
        int[] zero = {617 * 1024 + 2};
        checks.sendsInVain("UP's zero", lessInB, x -> x.exchange(0, 2, 1), Face.FAILED, 5);
        checks.parts("UP's zero", lessInB.then(x -> x.exchange(0, 2, 1)), zero, NO_ZEROS);

        Pair twoLessInB = without(AT_0_1_2_3, new int[] {}, new int[] {6848, 9363});
        int[] zeros = {6848 * 1024 + 2, 9363 * 1024 + 2};
        checks.sendsInVain("UP's two zeros", twoLessInB, x -> x.exchange(0, 2, 2), Face.FAILED, 7);
        checks.parts("UP's two zeros", twoLessInB.then(x -> x.exchange(0, 2, 2)), zeros, NO_ZEROS);
    }

    /** "or those of b that are zeros of LOW not as many as its degree, it fails." */
    private static void zeroOfLowThatIsNoWord() {
        Pair lessInB = without(AT_0_1_2, new int[] {}, new int[] {617});
        int[] zero = {617 * 1024 + 2};
        checks.sendsInVain("LOW's zero", lessInB, x -> x.exchange(2, 0, 1), Face.FAILED, 5);
        checks.parts("LOW's zero", lessInB.then(x -> x.exchange(2, 0, 1)), NO_ZEROS, zero);

        Pair twoLessInA = without(AT_0_1_2_3, new int[] {2702, 2786}, new int[] {});
        int[] zeros = {2702 * 1024 + 2, 2786 * 1024 + 2};
        checks.sendsInVain("LOW's two zeros", twoLessInA, x -> x.exchange(0, 2, 2), Face.FAILED, 7);
        checks.parts("LOW's two zeros", twoLessInA.then(x -> x.exchange(0, 2, 2)), NO_ZEROS, zeros);
    }

    /** "not as many as its degree": one less of two, or none in one of both. */
    private static void someZerosThatAreNoWords() {
        Pair lessInB = without(AT_0_1_2_3, new int[] {}, new int[] {6848});
        Face.Story oneOfUp = lessInB.then(x -> x.put(0, NEW, 1));
        int[] both = {6848 * 1024 + 2, NEW_WORD};
        checks.sendsInVain("one of UP's two", oneOfUp, x -> x.exchange(0, 2, 2), Face.FAILED, 7);
        checks.parts("one of UP's two", oneOfUp.then(x -> x.exchange(0, 2, 2)), both, NO_ZEROS);
        checks.sendsInVain("one of LOW's two", oneOfUp, x -> x.exchange(2, 0, 2), Face.FAILED, 7);
        checks.parts("one of LOW's two", oneOfUp.then(x -> x.exchange(2, 0, 2)), NO_ZEROS, both);

        Face.Story oneOfEach = lessInB.then(x -> x.put(2, NEW, 1));
        int[] unknown = {6848 * 1024 + 2};
        int[] known = {NEW_WORD};
        checks.sendsInVain("none of UP's", oneOfEach, x -> x.exchange(0, 2, 2), Face.FAILED, 7);
        checks.parts("none of UP's", oneOfEach.then(x -> x.exchange(0, 2, 2)), unknown, known);
        checks.sendsInVain("none of LOW's", oneOfEach, x -> x.exchange(2, 0, 2), Face.FAILED, 7);
        checks.parts("none of LOW's", oneOfEach.then(x -> x.exchange(2, 0, 2)), known, unknown);
    }

    /**
     * "a record that it has not of that number, or whose version is greater than that of its own":
     * UP's zero is a word that both have, so it is not taken over; a greater version of it is.
     */
    private static void zeroThatBothHave() {
        Face.Story equal = AT_0_1_2.then(x -> x.put(0, 617, 5));
        int[] zero = {617 * 1024 + 2};
        checks.sendsInVain("an equal version", equal, x -> x.exchange(0, 2, 1), 0, 5);
        checks.sendsInVain("an equal version", equal, x -> x.exchange(2, 0, 1), 0, 5);
        checks.parts("an equal version", equal.then(x -> x.exchange(0, 2, 1)), zero, NO_ZEROS);

        Banks x = new Banks();
        equal.tell(x);
        x.put(0, 617, 6);
        checks.due("a greater version", x.exchange(0, 2, 1), 1);
        checks.due("sent", x.sent(), 4 + 1 + 2);
        checks.due("version", x.version(2, 617), 4);
        checks.due("grams", x.grams(2, 617), 6);
        checks.due("size", x.size(2), 8);
        checks.due("size of the other", x.size(0), 9);
    }

    /**
     * "If a bank would have more than 64 records then, it is too great: nothing is taken over":
     * one of them would have 65, the other 64, as what comes takes the place of its own.
     */
    private static void oneBankAloneIsTooGreat() {
        for (int common = 38; common <= 39; common++) {
            int to = 100 + common;
            Face.Story story = x -> {
                AT_0_1_2_3.tell(x);
                Puts.range(x, 0, 100, to);
                Puts.range(x, 2, 100, to);
                x.put(0, NEW, 1);
                Puts.times(x, 2, 2702, 2);
            };
            if (common == 39) {
                checks.sendsInVain("65 in b", story, x -> x.exchange(0, 2, 2), Face.FULL, 7);
                checks.sendsInVain("65 in a", story, x -> x.exchange(2, 0, 2), Face.FULL, 7);
            } else {
                Banks x = new Banks();
                story.tell(x);
                checks.due("64 and 63", x.exchange(0, 2, 2), 2);
                checks.due("size of a", x.size(0), 63);
                checks.due("size of b", x.size(2), 64);
                checks.due("the greater version", x.version(0, 2702), 4);
                checks.due("sent", x.sent(), 5 + 2 + 4);
            }
            checks.parts("both ways", story.then(x -> x.exchange(0, 2, 2)),
                    new int[] {NEW_WORD}, new int[] {2702 * 1024 + 4});
        }
    }

    /**
     * Promise 12: "0 and 2". Banks 2 and 3 look alike, so they are not made equal before that; bank
     * 0 has all of 3 and two records more, which takes a listing with 2 but none with 3.
     */
    private static void spreadingOfLookAlikes() {
        Face.Story story = x -> {
            Puts.all(x, 2, AT_0_1_2.inA);
            Puts.all(x, 0, AT_0_1_2.inB);
            x.list(0, 3);
            Puts.all(x, 0, NEW, NEW + 1);
        };
        Banks x = new Banks();
        story.tell(x);
        checks.due("2 and 3 see no difference", x.exchange(2, 3, 1), 0);
        checks.due("spread", x.spread(1), 10 + 0 + 18 + 10 + 8);
        for (int bank = 0; bank < 4; bank++) {
            checks.due("size", x.size(bank), 18);
        }
        checks.likeModel("spread", story.then(y -> y.spread(1)));
    }

    private static Pair without(Pair pair, int[] notInA, int[] notInB) {
        return new Pair(less(pair.inA, notInA), less(pair.inB, notInB), pair.points);
    }

    private static int[] less(int[] numbers, int[] away) {
        return Arrays.stream(numbers)
                .filter(number -> Arrays.stream(away).noneMatch(gone -> gone == number)).toArray();
    }
}
