import java.math.BigInteger;

/**
 * Promises 9 and 14 to 16, and 'Terms' about an exchange: when it is refused, fails, or finds no
 * room, what it sends then, and its UP and LOW. Each method stands for the sentence above it.
 */
public final class ExchangeTest {
    private static final long PRIME = 2147483647L;
    private static final int[] NO_ZEROS = {};
    private static final Checks checks = new Checks();

    /** Banks 2 and 3 have been made equal: UP's zero is word 9 * 1024 + 2, LOW has none. */
    private static final Face.Story EARLIER = x -> {
        x.put(2, 9, 9);
        x.exchange(2, 3, 1);
    };

    public static void main(String[] args) {
        refusesNoTwoBanks();
        refusesM();
        takesLeastAndGreatestM();
        failsWhenSizesAreTooFarApart();
        failsBeyondTheReach();
        usesOnePointLessWhenOdd();
        emptyBanks();
        equalBanks();
        takesOverWhatItHasNot();
        takesOverGreaterVersions();
        takesOverNoEqualVersions();
        takesOverDropped();
        bothTakeWhatWasThereBefore();
        roomFor64();
        tooGreatWith65();
        newVersionsNeedNoRoom();
        sendsByCase();
        degreesOfOthers();
        degreesFrom0To16();
        factorsOfOthers();
        factorsWrapAround();
        partsOfTheLatestThatFoundThem();
        checks.finish();
    }

    /** "BAD (and nothing is sent) when there are no two such banks". */
    private static void refusesNoTwoBanks() {
        Face.Story story = EARLIER.then(x -> x.put(0, 1, 1)).then(x -> x.put(3, 2, 1));
        for (int[] pair : Beyond.PAIRS) {
            String name = "exchange of " + pair[0] + " and " + pair[1];
            checks.refused(name, story, x -> x.exchange(pair[0], pair[1], 3), Face.BAD);
            checks.refused(name + " with no m", story, x -> x.exchange(pair[0], pair[1], 0), Face.BAD);
        }
        for (int a = 0; a < 4; a++) {
            for (int b = 0; b < 4; b++) {
                Banks x = new Banks();
                x.put(a, 5, 1);
                checks.due("exchange of " + a + " and " + b, x.exchange(a, b, 1), a == b ? Face.BAD : 1);
                checks.due("sent", x.sent(), a == b ? 0 : 4 + 1 + 2);
            }
        }
    }

    /** "BAD (and nothing is sent) when ... m is not 1 .. 16." */
    private static void refusesM() {
        Face.Story story = EARLIER.then(x -> x.put(0, 1, 1));
        for (int m : Beyond.REACHES) {
            checks.refused("exchange with m " + m, story, x -> x.exchange(0, 1, m), Face.BAD);
            checks.refused("of equal banks with m " + m, story, x -> x.exchange(2, 3, m), Face.BAD);
        }
    }

    /** "with m, 1 .. 16": the ends, and those just within. */
    private static void takesLeastAndGreatestM() {
        for (int m : new int[] {1, 2, 15, 16}) {
            Banks x = new Banks();
            x.put(0, 1, 1);
            checks.due("exchange with m " + m, x.exchange(0, 1, m), 1);
            checks.due("sent", x.sent(), m + 3 + 1 + 2);
            checks.due("size", x.size(1), 1);
        }
    }

    /** "If d is more than m, or less than -m, it FAILS." */
    private static void failsWhenSizesAreTooFarApart() {
        for (int reach = 1; reach <= 16; reach++) {
            int m = reach;
            for (int more = m - 1; more <= m; more++) {
                checkOnlyMore(more + " more with m " + m, m, more, true);
                checkOnlyMore(more + " less with m " + m, m, more, false);
            }
            for (int more : new int[] {m + 1, m + 2, 59}) {
                Face.Story story = x -> {
                    EARLIER.tell(x);
                    Puts.range(x, 0, 0, 5 + more);
                    Puts.range(x, 2, 0, 4);
                };
                String name = more + " with m " + m;
                checks.findsNone("more by " + name, story, x -> x.exchange(0, 2, m), Face.FAILED, m + 3);
                checks.findsNone("less by " + name, story, x -> x.exchange(2, 0, m), Face.FAILED, m + 3);
            }
        }
        Face.Story full = x -> Puts.range(x, 3, 0, 64);
        checks.findsNone("64 more", full, x -> x.exchange(3, 0, 16), Face.FAILED, 19);
        checks.findsNone("64 less", full, x -> x.exchange(0, 3, 16), Face.FAILED, 19);
    }

    private static void checkOnlyMore(String name, int m, int more, boolean inA) {
        Banks x = new Banks();
        Puts.range(x, 2, 0, 5 + more);
        Puts.range(x, 0, 0, 5);
        checks.due(name, inA ? x.exchange(2, 0, m) : x.exchange(0, 2, m), more);
        checks.due(name + ": sent", x.sent(), m + 3 + 3 * more);
        checks.due(name + ": size", x.size(0), 5 + more);
        checks.due(name + ": degree", x.degree(inA ? 0 : 1), more);
        checks.due(name + ": other degree", x.degree(inA ? 1 : 0), 0);
    }

    /**
     * "Let n be m, but one less if m - d is odd; u = (n + d) / 2, l = (n - d) / 2": just as many
     * as u and l are found; with one less in each there are several U and L, which does not
     * matter; with one more in each it fails by what is looked at behind that.
     */
    private static void failsBeyondTheReach() {
        for (int m = 1; m <= 16; m++) {
            for (int d = -m; d <= m; d++) {
                int n = Math.floorMod(m - d, 2) == 1 ? m - 1 : m;
                int u = (n + d) / 2;
                int l = (n - d) / 2;
                checkReach(m, u, l, true);
                checkReach(m, u + 1, l + 1, false);
                if (u > 0 && l > 0) {
                    checkReach(m, u - 1, l - 1, true);
                }
            }
        }
    }

    private static void checkReach(int m, int onlyA, int onlyB, boolean reached) {
        int a = (m + onlyA) % 4;
        int b = (a + 1 + onlyB % 3) % 4;
        int[] wordsA = new int[onlyA];
        int[] wordsB = new int[onlyB];
        for (int i = 0; i < onlyA; i++) {
            wordsA[i] = (500 * i + 1) * 1024 + 2 + a % 2;
        }
        for (int i = 0; i < onlyB; i++) {
            wordsB[i] = (500 * i + 2) * 1024 + 2 + b % 2;
        }
        Face.Story story = x -> {
            Puts.all(x, a, 9990, 9992);
            x.list(a, b);
            for (int i = 0; i < onlyA; i++) {
                x.put(a, 500 * i + 1, i);
            }
            for (int i = 0; i < onlyB; i++) {
                x.put(b, 500 * i + 2, -i);
            }
        };
        String name = onlyA + " and " + onlyB + " with m " + m;
        if (reached) {
            Banks x = new Banks();
            story.tell(x);
            checks.due(name, x.exchange(a, b, m), onlyA + onlyB);
            checks.due(name + ": sent", x.sent(), 4 + m + 3 + 3 * (onlyA + onlyB));
            checks.due(name + ": difference", x.difference(a, b), 0);
            checks.due(name + ": size", x.size(a), 2 + onlyA + onlyB);
            checks.parts(name, story.then(y -> y.exchange(a, b, m)), wordsA, wordsB);
        } else {
            Model model = new Model();
            story.tell(model);
            model.exchange(a, b, m);
            long numbers = m + 3 + model.degree(0) + model.degree(1);
            checks.sendsInVain(name, story, y -> y.exchange(a, b, m), Face.FAILED, numbers);
            Banks x = new Banks();
            story.tell(x);
            x.exchange(a, b, m);
            checks.due(name + ": degree of UP", x.degree(0), model.degree(0));
            checks.due(name + ": degree of LOW", x.degree(1), model.degree(1));
            checks.due(name + ": factor of UP", x.factor(0, 0), model.factor(0, 0));
            checks.due(name + ": factor of LOW", x.factor(1, 0), model.factor(1, 0));
        }
    }

    /** "one less if m - d is odd": the last point is not used then, so UP is known by hand. */
    private static void usesOnePointLessWhenOdd() {
        for (int m = 1; m <= 2; m++) {
            Banks x = new Banks();
            Puts.all(x, 0, 1, 2);
            Puts.all(x, 1, 3);
            checks.due("exchange with " + m, x.exchange(0, 1, m), Face.FAILED);
            checks.due("degree of UP", x.degree(0), 1);
            checks.due("degree of LOW", x.degree(1), 0);
            // At point 0, the point plus this factor is a's sample over b's.
            long ratio = x.sample(0, 0) * inverse(x.sample(1, 0)) % PRIME;
            checks.due("factor of UP", x.factor(0, 0), (ratio + PRIME - 1073741824L) % PRIME);
            checks.due("sent", x.sent(), m + 3 + 1);
        }
        Banks x = new Banks();
        Puts.all(x, 0, 1);
        Puts.all(x, 1, 3);
        checks.due("no point at all with 1", x.exchange(0, 1, 1), Face.FAILED);
        checks.due("sent", x.sent(), 4);
        checks.due("two points with 2", x.exchange(0, 1, 2), 2);
    }

    /** "The SAMPLE ... 1 if it has none": exchanges of and with banks that have none. */
    private static void emptyBanks() {
        for (int m = 1; m <= 16; m++) {
            Banks x = new Banks();
            checks.due("exchange of empty banks", x.exchange(0, 3, m), 0);
            checks.due("sent", x.sent(), m + 3);
            checks.due("size", x.size(0) + x.size(3), 0);
            x.put(3, 0, 1);
            checks.due("exchange with an empty bank", x.exchange(0, 3, m), 1);
            checks.due("sent", x.sent(), 2 * (m + 3) + 3);
            checks.due("version", x.version(0, 0), 3);
        }
    }

    /** With all m, equal banks of 1, 63 and 64 records take nothing over; UP and LOW are 1. */
    private static void equalBanks() {
        for (int size : new int[] {1, 63, 64}) {
            Face.Story story = x -> {
                x.put(1, 9, 1);
                x.exchange(1, 3, 1);
                Puts.range(x, 0, 0, size);
                Puts.range(x, 2, 0, size);
            };
            for (int reach = 1; reach <= 16; reach++) {
                int m = reach;
                Face.Call call = x -> x.exchange(0, 2, m);
                checks.sendsInVain("exchange of equal banks", story, call, 0, m + 3);
                checks.parts("equal banks", story.then(call), NO_ZEROS, NO_ZEROS);
            }
        }
    }

    /** "a record that it has not of that number". */
    private static void takesOverWhatItHasNot() {
        Face.Story story = x -> {
            x.put(0, 5, 15);
            x.put(1, 31, 93);
            x.exchange(0, 1, 2);
        };
        Banks x = new Banks();
        story.tell(x);
        checks.due("sent", x.sent(), 5 + 2 + 4);
        for (int bank = 0; bank < 2; bank++) {
            checks.due("size", x.size(bank), 2);
            checks.due("grams", x.grams(bank, 5), 15);
            checks.due("grams", x.grams(bank, 31), 93);
            checks.due("version", x.version(bank, 5), 2);
            checks.due("version", x.version(bank, 31), 3);
        }
        checks.parts("one each way", story, new int[] {5122}, new int[] {31747});
    }

    /** "or whose version is greater than that of its own, which it takes the place of". */
    private static void takesOverGreaterVersions() {
        int[][] countsAndVersions = {{1, 1, 3}, {2, 1, 4}, {1, 2, 5}, {2, 2, 5}, {3, 2, 6}};
        for (int[] row : countsAndVersions) {
            for (int way = 0; way < 2; way++) {
                Banks x = new Banks();
                Puts.times(x, 0, 5, row[0]);
                Puts.times(x, 3, 5, row[1]);
                checks.due("exchange", way == 0 ? x.exchange(0, 3, 2) : x.exchange(3, 0, 2), 1);
                checks.due("sent: one of the two words goes over", x.sent(), 5 + 2 + 2);
                int grams = row[2] / 2;
                for (int bank = 0; bank <= 3; bank += 3) {
                    checks.due("the greater version", x.version(bank, 5), row[2]);
                    checks.due("its grams", x.grams(bank, 5), grams);
                    checks.due("size", x.size(bank), 1);
                }
            }
        }
    }

    /** The same words are no zeros of UP or LOW, whatever else the records hold. */
    private static void takesOverNoEqualVersions() {
        Face.Story story = x -> {
            x.put(0, 5, 1);
            x.put(2, 5, 9);
            x.put(0, 6, 1);
            x.drop(0, 6);
            x.put(2, 6, 1);
            x.put(2, 6, 2);
        };
        checks.findsNone("exchange of the same words", story, x -> x.exchange(0, 2, 1), 0, 4);
        Banks x = new Banks();
        story.tell(x);
        x.put(0, 7, 7);
        checks.due("another one goes over", x.exchange(0, 2, 1), 1);
        checks.due("grams stay", x.grams(0, 5), 1);
        checks.due("grams stay", x.grams(2, 5), 9);
        checks.due("dropped stays", x.version(0, 6), -4);
        checks.due("not dropped stays", x.version(2, 6), 4);
    }

    /** A mark that it is dropped goes over with the record, and goes away with it. */
    private static void takesOverDropped() {
        Banks x = new Banks();
        Puts.all(x, 0, 5, 6);
        x.drop(0, 6);
        checks.due("exchange", x.exchange(0, 3, 2), 2);
        checks.due("dropped there too", x.version(3, 6), -4);
        checks.due("with its grams", x.grams(3, 6), 6);
        x.drop(3, 5);
        x.put(3, 6, 66);
        checks.due("exchange", x.exchange(0, 3, 4), 2);
        checks.due("dropped by the other", x.version(0, 5), -5);
        checks.due("no more dropped", x.version(0, 6), 7);
        checks.due("its grams", x.grams(0, 6), 66);
    }

    /** "(What both take over is what was there before.)" */
    private static void bothTakeWhatWasThereBefore() {
        Face.Story story = x -> {
            Puts.all(x, 1, 5, 6, 6, 8);
            Puts.all(x, 0, 5, 5, 6, 7);
            x.drop(1, 8);
        };
        for (int way = 0; way < 2; way++) {
            int a = way;
            Banks x = new Banks();
            story.tell(x);
            checks.due("exchange", x.exchange(a, 1 - a, 6), 4);
            checks.due("sent: six words, four records", x.sent(), 9 + 6 + 8);
            for (int bank = 0; bank < 2; bank++) {
                checks.due("size", x.size(bank), 4);
                checks.due("version of 5", x.version(bank, 5), 4);
                checks.due("version of 6", x.version(bank, 6), 5);
                checks.due("version of 7", x.version(bank, 7), 2);
                checks.due("version of 8", x.version(bank, 8), -5);
            }
        }
        int[] words0 = {5 * 1024 + 4, 6 * 1024 + 2, 7 * 1024 + 2};
        int[] words1 = {5 * 1024 + 3, 6 * 1024 + 5, 8 * 1024 + 5};
        checks.parts("both ways", story.then(x -> x.exchange(0, 1, 6)), words0, words1);
        checks.parts("both ways", story.then(x -> x.exchange(1, 0, 6)), words1, words0);
    }

    /** "If a bank would have more than 64 records then": 64 are no more than 64. */
    private static void roomFor64() {
        int[][] onlyAOnlyBAndM = {{1, 1, 2}, {2, 0, 2}, {0, 2, 2}, {1, 0, 1}, {0, 1, 1}, {3, 1, 4},
            {8, 8, 16}, {16, 0, 16}, {0, 16, 16}};
        for (int[] row : onlyAOnlyBAndM) {
            Banks x = new Banks();
            union(row[0], row[1], 64).tell(x);
            checks.due("exchange", x.exchange(0, 2, row[2]), row[0] + row[1]);
            checks.due("size of a", x.size(0), 64);
            checks.due("size of b", x.size(2), 64);
            checks.due("difference", x.difference(0, 2), 0);
            checks.due("sent", x.sent(), row[2] + 3 + 3 * (row[0] + row[1]));
        }
    }

    /** "it is too great: nothing is taken over", "FULL when it is too great". */
    private static void tooGreatWith65() {
        int[][] onlyAOnlyBAndM = {{1, 1, 2}, {2, 1, 3}, {1, 2, 3}, {3, 1, 4}, {8, 8, 16}, {15, 1, 16},
            {1, 15, 16}};
        for (int[] row : onlyAOnlyBAndM) {
            Face.Story full = union(row[0], row[1], 65);
            long numbers = row[2] + 3 + row[0] + row[1];
            checks.sendsInVain("65 in both", full, x -> x.exchange(0, 2, row[2]), Face.FULL, numbers);
            checks.sendsInVain("65 in both", full, x -> x.exchange(2, 0, row[2]), Face.FULL, numbers);
            Banks x = new Banks();
            full.tell(x);
            x.exchange(0, 2, row[2]);
            checks.due("degree of UP", x.degree(0), row[0]);
            checks.due("degree of LOW", x.degree(1), row[1]);
            checks.due("size of a stays", x.size(0), 65 - row[1]);
            checks.due("size of b stays", x.size(2), 65 - row[0]);
        }
        Face.Story withVersions = x -> {
            union(1, 1, 65).tell(x);
            x.put(0, 30, 5);
            x.drop(2, 31);
        };
        checks.sendsInVain("new versions are not taken over either", withVersions,
                x -> x.exchange(0, 2, 6), Face.FULL, 9 + 6);
        checks.parts("too great", x -> {
            union(1, 1, 65).tell(x);
            x.exchange(0, 2, 2);
        }, new int[] {2}, new int[] {64 * 1024 + 2});
    }

    /** Banks 0 and 2 that have so many numbers together: a's own ones are the least, b's the greatest. */
    private static Face.Story union(int onlyA, int onlyB, int all) {
        return x -> {
            Puts.range(x, 0, 0, all - onlyB);
            Puts.range(x, 2, onlyA, all);
        };
    }

    /** "which it takes the place of": a full bank has room for that. */
    private static void newVersionsNeedNoRoom() {
        Banks x = new Banks();
        Puts.range(x, 0, 0, 64);
        Puts.range(x, 2, 0, 64);
        x.put(0, 0, 5);
        x.drop(2, 63);
        checks.due("exchange", x.exchange(0, 2, 4), 2);
        checks.due("sent", x.sent(), 7 + 4 + 4);
        checks.due("size", x.size(0), 64);
        checks.due("size", x.size(2), 64);
        checks.due("grams", x.grams(2, 0), 5);
        checks.due("dropped", x.version(0, 63), -4);
        checks.due("difference", x.difference(0, 2), 0);
    }

    /**
     * "It sends m + 3 numbers, then, if it has found UP and LOW, as many as their degrees together,
     * and two for each record that is taken over."
     */
    private static void sendsByCase() {
        Banks x = new Banks();
        x.put(0, 1, 1);
        checks.due("nothing is sent at first", x.sent(), 0);
        x.exchange(0, 0, 5);
        checks.due("nothing by what is BAD", x.sent(), 0);
        x.put(0, 2, 1);
        x.exchange(0, 1, 1);
        checks.due("m + 3 by the sizes", x.sent(), 4);
        x.put(1, 3, 1);
        x.exchange(0, 1, 1);
        checks.due("a degree more when it fails behind that", x.sent(), 4 + 5);
        x.exchange(0, 1, 3);
        checks.due("degrees and records", x.sent(), 9 + 6 + 3 + 6);
        x.exchange(1, 0, 16);
        checks.due("no degrees and no records", x.sent(), 24 + 19);
        x.put(0, 1, 2);
        x.exchange(1, 0, 16);
        checks.due("two words of one number, one record", x.sent(), 43 + 19 + 2 + 2);
        x.list(0, 1);
        checks.due("all records of both", x.sent(), 66 + 12);
    }

    /** "BAD for others." */
    private static void degreesOfOthers() {
        for (int what : Beyond.PARTS) {
            checks.refused("degree of " + what, EARLIER, x -> x.degree(what), Face.BAD);
            checks.refused("degree of a new one", x -> { }, x -> x.degree(what), Face.BAD);
        }
        checks.refused("degree of UP", EARLIER, x -> x.degree(0), 1);
        checks.refused("degree of LOW", EARLIER, x -> x.degree(1), 0);
    }

    /** The degrees that UP and LOW can have, and "i not 0 .. its degree". */
    private static void degreesFrom0To16() {
        for (int degree = 0; degree <= 16; degree++) {
            for (int what = 0; what < 2; what++) {
                Banks x = new Banks();
                Puts.range(x, what, 0, degree);
                x.exchange(0, 1, 16);
                checks.due("degree", x.degree(what), degree);
                checks.due("degree of the other", x.degree(1 - what), 0);
                checks.due("its highest factor", x.factor(what, degree), 1);
                checks.due("behind its highest factor", x.factor(what, degree + 1), Face.BAD);
                checks.due("before its lowest factor", x.factor(what, -1), Face.BAD);
                checks.due("the other's factor", x.factor(1 - what, 0), 1);
                checks.due("behind the other's factor", x.factor(1 - what, 1), Face.BAD);
            }
        }
        Banks x = new Banks();
        Puts.range(x, 0, 0, 8);
        Puts.range(x, 1, 0, 8);
        checks.due("exchange", x.exchange(0, 1, 16), 8);
        for (int what = 0; what < 2; what++) {
            checks.due("degree", x.degree(what), 8);
            checks.due("its highest factor", x.factor(what, 8), 1);
            checks.due("behind its highest factor", x.factor(what, 9), Face.BAD);
        }
        x.put(0, 5, 5);
        x.exchange(0, 2, 16);
        checks.due("a lesser degree than before", x.degree(1), 0);
        checks.due("factors of before are not seen", x.factor(1, 1), Face.BAD);
    }

    /** "BAD when what is another one, or i not 0 .. its degree." */
    private static void factorsOfOthers() {
        Face.Story story = x -> {
            Puts.all(x, 0, 1, 2);
            x.put(1, 3, 3);
            x.exchange(0, 1, 3);
        };
        for (int what : Beyond.PARTS) {
            for (int i = -1; i <= 3; i++) {
                int power = i;
                checks.refused("factor of " + what, story, x -> x.factor(what, power), Face.BAD);
            }
        }
        for (int i : new int[] {-1, 3, 16, 17, Integer.MIN_VALUE, Integer.MAX_VALUE}) {
            checks.refused("factor " + i + " of UP", story, x -> x.factor(0, i), Face.BAD);
        }
        for (int i : new int[] {-1, 2, 16, 17, Integer.MIN_VALUE, Integer.MAX_VALUE}) {
            checks.refused("factor " + i + " of LOW", story, x -> x.factor(1, i), Face.BAD);
        }
        checks.refused("factor 2 of UP", story, x -> x.factor(0, 2), 1);
        checks.refused("factor 1 of UP", story, x -> x.factor(0, 1), PRIME - 1026 - 2050);
        checks.refused("factor 0 of UP", story, x -> x.factor(0, 0), 1026 * 2050);
        checks.refused("factor 1 of LOW", story, x -> x.factor(1, 1), 1);
        checks.refused("factor 0 of LOW", story, x -> x.factor(1, 0), PRIME - 3075);
    }

    /** "NUMBERS of the FIELD are 0 .. 2147483646; all is reckoned modulo 2147483647". */
    private static void factorsWrapAround() {
        Banks x = new Banks();
        x.put(0, 0, 1);
        x.exchange(0, 1, 1);
        checks.due("less than 0 by the least word", x.factor(0, 0), PRIME - 2);
        Face.Story story = y -> {
            Puts.range(y, 1, 9984, 10000);
            y.exchange(0, 1, 16);
        };
        int[] words = new int[16];
        for (int i = 0; i < 16; i++) {
            words[i] = (9984 + i) * 1024 + 3;
        }
        checks.parts("sixteen great words", story, NO_ZEROS, words);
        // Found by search: two numbers of a and one of b, that UP does not reach with one point.
        checkOnlyFactor(108, 9652, 3487, 0);
        checkOnlyFactor(119, 8734, 704, 1);
        checkOnlyFactor(114, 9171, 7376, PRIME - 1);
    }

    private static void checkOnlyFactor(int one, int two, int inB, long factor) {
        for (int what = 0; what < 2; what++) {
            Banks x = new Banks();
            Puts.all(x, 0, one, two);
            Puts.all(x, 2, inB);
            int a = 2 * what;
            checks.due("exchange", x.exchange(a, 2 - a, 1), Face.FAILED);
            checks.due("degree", x.degree(what), 1);
            checks.due("the factor by search", x.factor(what, 0), factor);
            checks.due("the highest factor", x.factor(what, 1), 1);
            checks.due("sent", x.sent(), 4 + 1);
        }
    }

    /**
     * "of the latest exchange that found them ... (Also of one that failed by what was looked at
     * behind that.)"
     */
    private static void partsOfTheLatestThatFoundThem() {
        int[] earlier = {9 * 1024 + 2};
        checks.parts("an exchange", EARLIER, earlier, NO_ZEROS);
        checks.parts("what is BAD", EARLIER.then(x -> x.exchange(0, 1, 17)), earlier, NO_ZEROS);
        checks.parts("a put and a drop", EARLIER.then(x -> x.put(2, 9, 1)).then(x -> x.drop(2, 9)),
                earlier, NO_ZEROS);
        checks.parts("a listing", EARLIER.then(x -> x.list(2, 0)), earlier, NO_ZEROS);
        checks.parts("sizes too far apart", x -> {
            EARLIER.tell(x);
            Puts.range(x, 0, 0, 2);
            x.exchange(0, 1, 1);
            x.exchange(1, 0, 1);
        }, earlier, NO_ZEROS);
        checks.parts("a settling by listing alone", x -> {
            EARLIER.tell(x);
            Puts.range(x, 0, 0, 17);
            x.settle(0, 1, 1);
        }, earlier, NO_ZEROS);
        checks.parts("a new exchange", EARLIER.then(x -> x.exchange(0, 1, 1)), NO_ZEROS, NO_ZEROS);
        checks.parts("one that failed behind that", x -> {
            EARLIER.tell(x);
            x.put(0, 1, 1);
            x.put(1, 1, 1);
            x.exchange(0, 1, 1);
        }, NO_ZEROS, NO_ZEROS);
        checks.parts("the other way round", EARLIER.then(x -> x.exchange(1, 2, 1)), NO_ZEROS, earlier);
    }

    private static long inverse(long x) {
        return BigInteger.valueOf(x).modInverse(BigInteger.valueOf(PRIME)).longValue();
    }
}
