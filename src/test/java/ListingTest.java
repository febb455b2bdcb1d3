/**
 * Promise 10, and 'Terms' about a listing: what it sends and takes over, and where it finds no
 * room. Each method stands for the sentence above it.
 */
public final class ListingTest {
    private static final Checks checks = new Checks();

    public static void main(String[] args) {
        refusesNoTwoBanks();
        takesAnyTwoBanks();
        sendsAllRecordsOfBoth();
        takesOverWhatItHasNot();
        takesOverGreaterVersions();
        takesOverNoEqualVersions();
        roomFor64();
        fullWith65();
        newVersionsNeedNoRoom();
        checks.finish();
    }

    /** "BAD likewise": when there are no two such banks, and nothing is sent. */
    private static void refusesNoTwoBanks() {
        Face.Story story = x -> {
            Puts.all(x, 0, 1, 2);
            x.exchange(0, 1, 2);
            x.put(3, 5, 5);
        };
        for (int[] pair : Beyond.PAIRS) {
            String name = "list of " + pair[0] + " and " + pair[1];
            checks.refused(name, story, x -> x.list(pair[0], pair[1]), Face.BAD);
        }
    }

    private static void takesAnyTwoBanks() {
        for (int a = 0; a < 4; a++) {
            for (int b = 0; b < 4; b++) {
                Banks x = new Banks();
                x.put(a, 5, 1);
                checks.due("list of " + a + " and " + b, x.list(a, b), a == b ? Face.BAD : 1);
                checks.due("sent", x.sent(), a == b ? 0 : 2);
                checks.due("version", x.version(b, 5), 2 + a % 2);
            }
        }
    }

    /** "A LISTING of two banks sends all records of both (two numbers each)". */
    private static void sendsAllRecordsOfBoth() {
        Banks x = new Banks();
        checks.due("list of nothing", x.list(2, 3), 0);
        checks.due("nothing is sent", x.sent(), 0);
        x.put(0, 1, 1);
        checks.due("list", x.list(2, 3), 0);
        checks.due("others' records are not sent", x.sent(), 0);
        x.put(2, 1, 1);
        x.put(2, 2, 2);
        x.drop(2, 2);
        checks.due("list", x.list(2, 3), 2);
        checks.due("dropped ones too", x.sent(), 4);
        checks.due("list of equal banks", x.list(3, 2), 0);
        checks.due("what both have, too", x.sent(), 12);
        Puts.range(x, 0, 100, 163);
        checks.due("list of a full bank", x.list(0, 1), 64);
        checks.due("sent", x.sent(), 12 + 128);
        checks.due("list of two full banks", x.list(1, 0), 0);
        checks.due("sent", x.sent(), 140 + 256);
    }

    /** "each takes over what it has not". */
    private static void takesOverWhatItHasNot() {
        Face.Story story = x -> {
            Puts.all(x, 0, 1, 9999);
            Puts.all(x, 3, 0, 5);
            x.drop(3, 5);
        };
        for (int way = 0; way < 2; way++) {
            Banks x = new Banks();
            story.tell(x);
            checks.due("list", way == 0 ? x.list(0, 3) : x.list(3, 0), 4);
            checks.due("sent", x.sent(), 8);
            for (int bank = 0; bank <= 3; bank += 3) {
                checks.due("size", x.size(bank), 4);
                checks.due("version of 0", x.version(bank, 0), 3);
                checks.due("version of 1", x.version(bank, 1), 2);
                checks.due("version of 5", x.version(bank, 5), -5);
                checks.due("grams of 5", x.grams(bank, 5), 5);
                checks.due("version of 9999", x.version(bank, 9999), 2);
            }
            checks.due("other banks stay", x.size(1) + x.size(2), 0);
        }
    }

    /** "or has in a lesser version": by the count, and by the bank alone. */
    private static void takesOverGreaterVersions() {
        int[][] countsAndVersions = {{1, 1, 3}, {2, 1, 4}, {1, 2, 5}, {2, 2, 5}, {3, 2, 6}};
        for (int[] row : countsAndVersions) {
            for (int way = 0; way < 2; way++) {
                Banks x = new Banks();
                Puts.times(x, 2, 5, row[0]);
                Puts.times(x, 1, 5, row[1]);
                checks.due("list", way == 0 ? x.list(2, 1) : x.list(1, 2), 1);
                checks.due("sent", x.sent(), 4);
                for (int bank = 1; bank <= 2; bank++) {
                    checks.due("the greater version", x.version(bank, 5), row[2]);
                    checks.due("its grams", x.grams(bank, 5), row[2] / 2);
                    checks.due("size", x.size(bank), 1);
                }
            }
        }
    }

    /** An equal version is no lesser one, whatever else the records hold. */
    private static void takesOverNoEqualVersions() {
        Face.Story story = x -> {
            x.put(1, 5, 1);
            x.put(3, 5, 9);
            x.put(1, 6, 1);
            x.drop(1, 6);
            x.put(3, 6, 1);
            x.put(3, 6, 2);
        };
        checks.findsNone("list", story, x -> x.list(1, 3), 0, 8);
        checks.findsNone("list", story, x -> x.list(3, 1), 0, 8);
    }

    /** "FULL": 64 records have room; the sizes of a and b and how many they have in common. */
    private static void roomFor64() {
        int[][] rows = {{64, 0, 0}, {0, 64, 0}, {63, 1, 0}, {1, 63, 0}, {32, 32, 0}, {63, 63, 62},
            {64, 63, 63}, {40, 40, 16}};
        for (int[] row : rows) {
            Banks x = new Banks();
            overlap(row[0], row[1], row[2]).tell(x);
            checks.due("list", x.list(0, 2), row[0] + row[1] - 2 * row[2]);
            checks.due("sent", x.sent(), 2 * (row[0] + row[1]));
            checks.due("size of a", x.size(0), 64);
            checks.due("size of b", x.size(2), 64);
            checks.due("difference", x.difference(0, 2), 0);
        }
    }

    /** "FULL", "likewise" nothing is taken over, "(All that it sends counts, also when it is FULL.)" */
    private static void fullWith65() {
        int[][] rows = {{64, 1, 0}, {1, 64, 0}, {33, 32, 0}, {64, 64, 63}, {63, 64, 62}, {63, 63, 61},
            {64, 64, 0}};
        for (int[] row : rows) {
            Face.Story story = overlap(row[0], row[1], row[2]).then(x -> x.put(1, 1, 1))
                    .then(x -> x.exchange(1, 3, 1));
            long numbers = 2 * (row[0] + row[1]);
            checks.findsNone("list", story, x -> x.list(0, 2), Face.FULL, numbers);
            checks.findsNone("list the other way", story, x -> x.list(2, 0), Face.FULL, numbers);
        }
        Face.Story withVersions = x -> {
            overlap(64, 64, 63).tell(x);
            x.put(0, 30, 5);
            x.drop(2, 31);
        };
        checks.findsNone("new versions are not taken over either", withVersions,
                x -> x.list(0, 2), Face.FULL, 256);
    }

    /** Banks 0 and 2 of these sizes, with so many words in common. */
    private static Face.Story overlap(int sizeA, int sizeB, int common) {
        return x -> {
            Puts.range(x, 0, 0, sizeA);
            Puts.range(x, 2, sizeA - common, sizeA - common + sizeB);
        };
    }

    private static void newVersionsNeedNoRoom() {
        Banks x = new Banks();
        overlap(64, 64, 64).tell(x);
        x.put(0, 0, 99);
        x.drop(2, 63);
        checks.due("list", x.list(0, 2), 2);
        checks.due("grams", x.grams(2, 0), 99);
        checks.due("dropped", x.version(0, 63), -4);
        checks.due("size", x.size(0), 64);
        checks.due("difference", x.difference(0, 2), 0);
    }
}
