import java.math.BigInteger;

/**
 * Promises 1 to 8 and 13, and the limits that 'Terms' sets for them: a new object, and what one
 * bank holds and tells. Each method stands for the sentence above it.
 */
public final class RecordsTest {
    private static final int GREATEST = 2147483646;
    private static final BigInteger PRIME = BigInteger.valueOf(2147483647L);
    private static final Checks checks = new Checks();

    /** Each bank has a number of its own, a dropped one, and number 7; UP and LOW are not 1. */
    private static final Face.Story ORDINARY = x -> {
        for (int bank = 0; bank < 4; bank++) {
            Puts.all(x, bank, 10 + bank, 20 + bank, 7);
            x.drop(bank, 20 + bank);
        }
        x.exchange(0, 3, 6);
    };

    public static void main(String[] args) {
        newObject();
        objectsShareNothing();
        noSuchBank();
        noSuchNumber();
        leastAndGreatestNumber();
        anyGrams();
        oneRecordForANumber();
        putCounts();
        putMakesNotDropped();
        putFullAt64();
        putFullAtCount500();
        dropCounts();
        dropNone();
        dropFullAtCount500();
        countsFromAnotherBank();
        versionOfAll();
        gramsOfNone();
        sizeFrom0To64();
        wordFromFirstToLast();
        wordsInOrder();
        leastAndGreatestWord();
        samplePoints();
        sampleOfNoWords();
        sampleWrapsAround();
        droppedAreRecordsToo();
        differences();
        checks.finish();
    }

    /** "No records; nothing was sent; UP and LOW are 1." */
    private static void newObject() {
        State state = State.after(x -> { });
        checks.due("records of a new object", state.records().size(), 0);
        checks.due("sent by a new object", state.sent(), 0);
        checks.parts("a new object", x -> { }, new int[] {}, new int[] {});
        Banks x = new Banks();
        for (int bank = 0; bank < 4; bank++) {
            checks.due("size of a new bank", x.size(bank), 0);
            checks.due("word of a new bank", x.word(bank, 0), Face.BAD);
            checks.due("version in a new bank", x.version(bank, 0), 0);
            checks.due("grams in a new bank", x.grams(bank, 0), 0);
            checks.due("drop in a new bank", x.drop(bank, 0), Face.NONE);
        }
    }

    /** What one object is told changes nothing in another one, be it made before or afterwards. */
    private static void objectsShareNothing() {
        Banks before = new Banks();
        Puts.all(before, 0, 5, 6);
        before.exchange(0, 1, 2);
        Banks after = new Banks();
        checks.due("size in the new one", after.size(0) + after.size(1), 0);
        checks.due("sent by the new one", after.sent(), 0);
        checks.due("degree in the new one", after.degree(0), 0);
        Puts.all(after, 1, 7);
        after.settle(0, 1, 1);
        checks.due("size in the old one", before.size(1), 2);
        checks.due("version in the old one", before.version(1, 7), 0);
        checks.due("sent by the old one", before.sent(), 5 + 2 + 4);
        checks.due("degree of UP in the old one", before.degree(0), 2);
        checks.due("factor of UP in the old one", before.factor(0, 0), 5122 * 6146);
        checks.due("degree of LOW in the old one", before.degree(1), 0);
        checks.due("degree of LOW in the new one", after.degree(1), 1);
    }

    /** "BANKS are 0 .. 3", "BAD when there is no such bank". */
    private static void noSuchBank() {
        for (int bank : Beyond.BANKS) {
            String in = " in bank " + bank;
            checks.refused("put" + in, ORDINARY, x -> x.put(bank, 7, 1), Face.BAD);
            checks.refused("put of a new one" + in, ORDINARY, x -> x.put(bank, 1, 1), Face.BAD);
            checks.refused("drop" + in, ORDINARY, x -> x.drop(bank, 7), Face.BAD);
            checks.refused("version" + in, ORDINARY, x -> x.version(bank, 7), Face.BAD);
            checks.refused("grams" + in, ORDINARY, x -> x.grams(bank, 7), 0);
            checks.refused("size" + in, ORDINARY, x -> x.size(bank), Face.BAD);
            checks.refused("word" + in, ORDINARY, x -> x.word(bank, 0), Face.BAD);
            checks.refused("sample" + in, ORDINARY, x -> x.sample(bank, 0), Face.BAD);
        }
        for (int bank = 0; bank < 4; bank++) {
            Banks x = new Banks();
            int odd = bank % 2;
            checks.due("put in bank " + bank, x.put(bank, 7, 5), 2 + odd);
            checks.due("version in bank " + bank, x.version(bank, 7), 2 + odd);
            checks.due("grams in bank " + bank, x.grams(bank, 7), 5);
            checks.due("size of bank " + bank, x.size(bank), 1);
            checks.due("word of bank " + bank, x.word(bank, 0), 7 * 1024 + 2 + odd);
            checks.due("sample of bank " + bank, x.sample(bank, 0), 1073741824 - 7 * 1024 - 2 - odd);
            checks.due("drop in bank " + bank, x.drop(bank, 7), 4 + odd);
            for (int other = 0; other < 4; other++) {
                checks.due("size of bank " + other, x.size(other), other == bank ? 1 : 0);
            }
        }
    }

    /** "a NUMBER 0 .. 9999", "BAD when there is no such bank or number". */
    private static void noSuchNumber() {
        for (int number : Beyond.NUMBERS) {
            String of = " of number " + number;
            checks.refused("put" + of, ORDINARY, x -> x.put(0, number, 1), Face.BAD);
            checks.refused("drop" + of, ORDINARY, x -> x.drop(0, number), Face.BAD);
            checks.refused("version" + of, ORDINARY, x -> x.version(0, number), Face.BAD);
            checks.refused("grams" + of, ORDINARY, x -> x.grams(0, number), 0);
        }
        checks.refused("put of no number in no bank", ORDINARY, x -> x.put(4, 10000, 1), Face.BAD);
        checks.refused("drop of no number in no bank", ORDINARY, x -> x.drop(-1, -1), Face.BAD);
    }

    /** "a NUMBER 0 .. 9999": the ends themselves, and those just within. */
    private static void leastAndGreatestNumber() {
        Banks x = new Banks();
        int[] numbers = {0, 9999, 1, 9998};
        for (int number : numbers) {
            checks.due("version before " + number, x.version(1, number), 0);
            checks.due("drop before " + number, x.drop(1, number), Face.NONE);
            checks.due("put of " + number, x.put(1, number, number + 1), 3);
        }
        for (int number : numbers) {
            checks.due("version of " + number, x.version(1, number), 3);
            checks.due("grams of " + number, x.grams(1, number), number + 1);
            checks.due("drop of " + number, x.drop(1, number), 5);
            checks.due("version of dropped " + number, x.version(1, number), -5);
        }
        checks.due("size", x.size(1), 4);
    }

    /** "a weight in GRAMS (an int)": any int is kept, by a drop and on the way to another bank too. */
    private static void anyGrams() {
        for (int grams : new int[] {Integer.MIN_VALUE, -1, 0, 1, Integer.MAX_VALUE}) {
            Banks x = new Banks();
            x.put(0, 5, 77);
            checks.due("put anew with " + grams, x.put(0, 5, grams), 4);
            checks.due("grams " + grams, x.grams(0, 5), grams);
            x.exchange(0, 1, 1);
            checks.due("grams by an exchange", x.grams(1, 5), grams);
            checks.due("drop with " + grams, x.drop(0, 5), 6);
            checks.due("its grams stay", x.grams(0, 5), grams);
            x.list(0, 2);
            checks.due("grams by a listing", x.grams(2, 5), grams);
            checks.due("grams where it is not", x.grams(3, 5), 0);
        }
    }

    /** "one record for a number at most". */
    private static void oneRecordForANumber() {
        Banks x = new Banks();
        Puts.times(x, 0, 5, 3);
        x.drop(0, 5);
        x.put(0, 5, 1);
        checks.due("size", x.size(0), 1);
        checks.due("its only word", x.word(0, 0), 5 * 1024 + 10);
        checks.due("no other word", x.word(0, 1), Face.BAD);
        x.put(1, 5, 1);
        x.exchange(0, 1, 2);
        checks.due("size behind an exchange", x.size(1), 1);
        x.put(3, 5, 1);
        x.list(3, 0);
        checks.due("size behind a listing", x.size(3), 1);
        checks.due("size of the other", x.size(0), 1);
    }

    /** "its count one more than it was (1 for a new one): its version", "those grams". */
    private static void putCounts() {
        for (int bank = 0; bank < 4; bank++) {
            Banks x = new Banks();
            for (int count = 1; count <= 4; count++) {
                int version = 2 * count + bank % 2;
                checks.due("put in bank " + bank, x.put(bank, 7, -count), version);
                checks.due("version in bank " + bank, x.version(bank, 7), version);
                checks.due("grams in bank " + bank, x.grams(bank, 7), -count);
            }
            checks.due("a new one begins with 1", x.put(bank, 8, 1), 2 + bank % 2);
            checks.due("nothing is sent", x.sent(), 0);
        }
    }

    /** "not dropped". */
    private static void putMakesNotDropped() {
        Banks x = new Banks();
        Puts.all(x, 2, 7, 8);
        x.drop(2, 7);
        checks.due("drop", x.version(2, 7), -4);
        checks.due("another one is not dropped", x.version(2, 8), 2);
        checks.due("put upon the dropped one", x.put(2, 7, 9), 6);
        checks.due("it is not dropped", x.version(2, 7), 6);
        checks.due("its grams", x.grams(2, 7), 9);
        checks.due("it can be dropped again", x.drop(2, 7), 8);
    }

    /** "at most 64 RECORDS", "FULL when it is new and there are 64". */
    private static void putFullAt64() {
        for (int bank = 0; bank < 4; bank++) {
            int full = bank;
            int odd = bank % 2;
            Banks x = new Banks();
            Puts.range(x, bank, 100, 163);
            checks.due("put of the 64th", x.put(bank, 163, 1), 2 + odd);
            checks.due("size", x.size(bank), 64);
            checks.due("put in another bank", x.put((bank + 1) % 4, 7, 1), 3 - odd);

            Face.Story story = y -> Puts.range(y, full, 100, 164);
            for (int number : new int[] {0, 99, 164, 9999}) {
                checks.refused("put of a 65th", story, y -> y.put(full, number, 1), Face.FULL);
            }
            checks.refused("put of no number", story, y -> y.put(full, 10000, 1), Face.BAD);
            checks.refused("drop of a 65th", story, y -> y.drop(full, 164), Face.NONE);
            for (int number : new int[] {100, 131, 163}) {
                checks.due("put anew among 64", x.put(bank, number, 9), 4 + odd);
                checks.due("drop among 64", x.drop(bank, number), 6 + odd);
                checks.due("put of a 65th with a dropped one", x.put(bank, 164, 1), Face.FULL);
                checks.due("put upon the dropped one", x.put(bank, number, 8), 8 + odd);
            }
            checks.due("size stays", x.size(bank), 64);
        }
    }

    /** "a count 1 .. 500", "FULL when ... its count is 500". */
    private static void putFullAtCount500() {
        for (int bank = 0; bank < 4; bank++) {
            int maker = bank;
            int odd = bank % 2;
            Banks x = new Banks();
            Puts.times(x, bank, 9999, 498);
            checks.due("put to 499", x.put(bank, 9999, 1), 998 + odd);
            checks.due("put to 500", x.put(bank, 9999, 2), 1000 + odd);
            checks.due("put beyond 500", x.put(bank, 9999, 3), Face.FULL);
            checks.due("another one is new all the same", x.put(bank, 9998, 3), 2 + odd);
            checks.due("and put anew", x.put(bank, 9998, 3), 4 + odd);

            Face.Story story = y -> Puts.times(y, maker, 9999, 500);
            checks.refused("put beyond 500", story, y -> y.put(maker, 9999, 3), Face.FULL);
            Face.Story dropped = y -> {
                Puts.times(y, maker, 0, 499);
                y.drop(maker, 0);
            };
            checks.refused("put upon a dropped one of 500", dropped, y -> y.put(maker, 0, 3), Face.FULL);
        }
    }

    /** "A bank's record of a number is dropped (its grams stay): its count is one more: its version." */
    private static void dropCounts() {
        for (int bank = 0; bank < 4; bank++) {
            Banks x = new Banks();
            Puts.times(x, bank, 7, 3);
            int version = 8 + bank % 2;
            checks.due("drop", x.drop(bank, 7), version);
            checks.due("version", x.version(bank, 7), -version);
            checks.due("its grams stay", x.grams(bank, 7), 3);
            checks.due("size stays", x.size(bank), 1);
            checks.due("nothing is sent", x.sent(), 0);
        }
    }

    /** "NONE when there is no record, or it is dropped". */
    private static void dropNone() {
        for (int number : new int[] {0, 6, 8, 9999}) {
            checks.refused("drop of none", ORDINARY, x -> x.drop(0, number), Face.NONE);
        }
        checks.refused("drop of another bank's", ORDINARY, x -> x.drop(0, 11), Face.NONE);
        checks.refused("drop of a dropped one", ORDINARY, x -> x.drop(0, 20), Face.NONE);
        Banks x = new Banks();
        Puts.all(x, 1, 5);
        checks.due("drop", x.drop(1, 5), 5);
        x.exchange(1, 2, 1);
        checks.due("drop of one that came dropped", x.drop(2, 5), Face.NONE);
    }

    /** "FULL when its count is 500"; a dropped one of 500 is first of all a dropped one. */
    private static void dropFullAtCount500() {
        for (int bank = 0; bank < 4; bank++) {
            int maker = bank;
            Banks x = new Banks();
            Puts.times(x, bank, 3, 499);
            checks.due("drop to 500", x.drop(bank, 3), 1000 + bank % 2);
            checks.due("version", x.version(bank, 3), -1000 - bank % 2);
            Face.Story story = y -> Puts.times(y, maker, 3, 500);
            checks.refused("drop beyond 500", story, y -> y.drop(maker, 3), Face.FULL);
            Face.Story dropped = y -> {
                Puts.times(y, maker, 3, 499);
                y.drop(maker, 3);
            };
            checks.refused("drop of a dropped one of 500", dropped, y -> y.drop(maker, 3), Face.NONE);
        }
    }

    /** "plus the bank that made it modulo 2": the count goes on in the bank that took it over. */
    private static void countsFromAnotherBank() {
        Banks x = new Banks();
        x.put(1, 5, 50);
        x.list(0, 1);
        checks.due("a version of bank 1 in bank 0", x.version(0, 5), 3);
        checks.due("put upon it is bank 0's", x.put(0, 5, 51), 4);
        x.exchange(3, 0, 1);
        checks.due("drop upon that is bank 3's", x.drop(3, 5), 7);

        x = new Banks();
        Puts.times(x, 0, 5, 499);
        x.list(0, 1);
        checks.due("put to 500 in bank 1", x.put(1, 5, 1), 1001);
        checks.due("put to 500 in bank 0", x.put(0, 5, 2), 1000);
        checks.due("the greatest version goes over", x.exchange(0, 1, 2), 1);
        checks.due("version", x.version(0, 5), 1001);
        checks.due("grams", x.grams(0, 5), 1);
        checks.due("put beyond 500", x.put(0, 5, 3), Face.FULL);
        checks.due("drop beyond 500", x.drop(0, 5), Face.FULL);
        checks.due("version stays", x.version(0, 5), 1001);
    }

    /** "less than 0 by that much if it is dropped; 0 when there is none". */
    private static void versionOfAll() {
        checks.refused("version", ORDINARY, x -> x.version(1, 7), 3);
        checks.refused("version of a dropped one", ORDINARY, x -> x.version(1, 21), -5);
        for (int number : new int[] {0, 6, 8, 10, 22, 9999}) {
            checks.refused("version of none", ORDINARY, x -> x.version(1, number), 0);
        }
    }

    /** "0 when there is none such". */
    private static void gramsOfNone() {
        checks.refused("grams", ORDINARY, x -> x.grams(1, 7), 7);
        checks.refused("grams of a dropped one", ORDINARY, x -> x.grams(1, 21), 21);
        for (int number : new int[] {0, 6, 8, 10, 22, 9999}) {
            checks.refused("grams of none", ORDINARY, x -> x.grams(1, number), 0);
        }
    }

    /** "How many records a bank has", 0 .. 64. */
    private static void sizeFrom0To64() {
        for (int bank = 0; bank < 4; bank++) {
            Banks x = new Banks();
            for (int size = 0; size <= 66; size++) {
                checks.due("size", x.size(bank), Math.min(size, 64));
                x.put(bank, 9999 - 3 * size, size);
            }
        }
    }

    /** "Word i of a bank, by size; BAD when there is none such." */
    private static void wordFromFirstToLast() {
        for (int size : new int[] {0, 1, 2, 63, 64}) {
            Face.Story story = x -> Puts.range(x, 2, 0, size);
            for (int i : new int[] {-1, size, 64, 65, Integer.MIN_VALUE, Integer.MAX_VALUE}) {
                checks.refused("word " + i + " of " + size, story, x -> x.word(2, i), Face.BAD);
            }
            if (size > 0) {
                checks.refused("the first word", story, x -> x.word(2, 0), 2);
                checks.refused("the last word", story, x -> x.word(2, size - 1), 1024 * (size - 1) + 2);
            }
        }
    }

    /** "A bank's words are always different ones; they are in order by their size." */
    private static void wordsInOrder() {
        Banks x = new Banks();
        Puts.all(x, 3, 500, 9999, 0, 501, 499, 7);
        Puts.times(x, 3, 499, 200);
        x.put(3, 7, 1);
        x.drop(3, 7);
        int[] words = {3, 7 * 1024 + 7, 499 * 1024 + 403, 500 * 1024 + 3, 501 * 1024 + 3, 9999 * 1024 + 3};
        for (int i = 0; i < words.length; i++) {
            checks.due("word " + i, x.word(3, i), words[i]);
        }
        Puts.all(x, 2, 498, 502, 3);
        x.list(3, 2);
        for (int i = 1; i < 9; i++) {
            checks.holds("word " + i + " is the greater one", x.word(2, i - 1) < x.word(2, i));
        }
        checks.due("the last word", x.word(2, 8), 9999 * 1024 + 3);
        checks.due("grams of the last one", x.grams(2, 9999), 9999);
    }

    /** "1024 times its number, plus its version": the ends, and neighbours by number. */
    private static void leastAndGreatestWord() {
        Banks x = new Banks();
        x.put(0, 0, 1);
        checks.due("the least word", x.word(0, 0), 2);
        Puts.times(x, 1, 9999, 500);
        checks.due("the greatest word", x.word(1, 0), 10239977);
        checks.due("its sample", x.sample(1, 0), 1073741824 - 10239977);
        checks.due("its sample at the last point", x.sample(1, 17), 1073741841 - 10239977);
        checks.due("it goes over", x.exchange(1, 3, 1), 1);
        checks.due("factor of UP", x.factor(0, 0), 2147483647 - 10239977);
        checks.due("the greatest word again", x.word(3, 0), 10239977);

        x = new Banks();
        x.put(1, 8, 1);
        Puts.times(x, 1, 7, 500);
        checks.due("the greatest of number 7 is the lesser one", x.word(1, 0), 7 * 1024 + 1001);
        checks.due("the least of number 8 is the greater one", x.word(1, 1), 8 * 1024 + 3);
        checks.due("version of number 7", x.version(1, 7), 1001);
        checks.due("version of number 8", x.version(1, 8), 3);
    }

    /** "POINT k, for k = 0 .. 17, is 1073741824 + k", "BAD when there is no such bank or point". */
    private static void samplePoints() {
        for (int k : Beyond.POINTS) {
            checks.refused("sample at point " + k, ORDINARY, x -> x.sample(2, k), Face.BAD);
            checks.refused("sample of an empty bank", x -> { }, x -> x.sample(2, k), Face.BAD);
            checks.refused("sample of no bank", ORDINARY, x -> x.sample(4, k), Face.BAD);
        }
        Banks x = new Banks();
        x.put(2, 5, 1);
        for (int k = 0; k <= 17; k++) {
            checks.due("sample at point " + k, x.sample(2, k), 1073741824 + k - 5122);
        }
    }

    /** "1 if it has none". */
    private static void sampleOfNoWords() {
        for (int bank = 0; bank < 4; bank++) {
            Banks x = new Banks();
            for (int k = 0; k <= 17; k++) {
                checks.due("sample of none at point " + k, x.sample(bank, k), 1);
            }
            x.put(bank, 0, 0);
            checks.due("sample of one", x.sample(bank, 0), 1073741824 - 2 - bank % 2);
        }
    }

    /** "NUMBERS of the FIELD are 0 .. 2147483646; all is reckoned modulo 2147483647". */
    private static void sampleWrapsAround() {
        for (int size : new int[] {1, 2, 3, 63, 64}) {
            Banks x = new Banks();
            for (int i = 0; i < size; i++) {
                x.put(3, i * 157 % 10000, i);
            }
            for (int k = 0; k <= 17; k++) {
                BigInteger product = BigInteger.ONE;
                for (int i = 0; i < size; i++) {
                    long less = 1073741824L + k - (i * 157 % 10000 * 1024 + 3);
                    product = product.multiply(BigInteger.valueOf(less));
                }
                checks.due("sample of " + size, x.sample(3, k), product.mod(PRIME).longValue());
            }
        }
        Banks x = new Banks();
        Puts.all(x, 1, 8650, 8650, 8650, 9904);
        checks.due("the greatest sample, at point 17", x.sample(1, 17), GREATEST);
        Puts.times(x, 3, 4223, 8);
        Puts.times(x, 3, 8622, 4);
        checks.due("the greatest sample, at point 0", x.sample(3, 0), GREATEST);
        Puts.times(x, 0, 486, 5);
        Puts.times(x, 0, 4272, 8);
        checks.due("the sample 1 of two words", x.sample(0, 17), 1);
    }

    /** "(Dropped ones are records, with words, too.)" */
    private static void droppedAreRecordsToo() {
        Banks x = new Banks();
        Puts.all(x, 0, 7, 9);
        x.drop(0, 7);
        checks.due("size", x.size(0), 2);
        checks.due("word", x.word(0, 0), 7 * 1024 + 4);
        long product = (1073741824L - 7 * 1024 - 4) * (1073741824L - 9 * 1024 - 2);
        checks.due("sample", x.sample(0, 0), product % 2147483647L);
        checks.due("difference", x.difference(0, 1), 2);
        checks.due("exchange", x.exchange(0, 1, 2), 2);
        checks.due("it is dropped there too", x.version(1, 7), -4);
        checks.due("listing", x.list(2, 1), 2);
        checks.due("it is dropped there too", x.version(2, 7), -4);
        checks.due("grams", x.grams(2, 7), 7);
    }

    /** "How many words only one of two banks has; BAD when there are no two such banks." */
    private static void differences() {
        for (int[] pair : Beyond.PAIRS) {
            String name = "difference of " + pair[0] + " and " + pair[1];
            checks.refused(name, ORDINARY, x -> x.difference(pair[0], pair[1]), Face.BAD);
        }
        Banks x = new Banks();
        for (int a = 0; a < 4; a++) {
            for (int b = 0; b < 4; b++) {
                checks.due("difference of empty banks", x.difference(a, b), a == b ? Face.BAD : 0);
            }
        }
        Puts.all(x, 0, 1, 2, 3);
        checks.due("difference from an empty bank", x.difference(0, 1), 3);
        checks.due("difference of an empty bank", x.difference(3, 0), 3);
        Puts.all(x, 2, 2, 4);
        checks.due("one in common", x.difference(0, 2), 3);
        checks.due("the other way", x.difference(2, 0), 3);
        x.put(2, 3, 1);
        x.drop(2, 3);
        checks.due("another version is another word", x.difference(0, 2), 4);
        x.put(1, 2, 2);
        checks.due("no words in common", x.difference(0, 1), 4);
        checks.due("nothing is sent", x.sent(), 0);

        x = new Banks();
        Puts.range(x, 1, 0, 64);
        Puts.range(x, 3, 0, 63);
        checks.due("one of 64 more", x.difference(1, 3), 1);
        x.put(3, 63, 99);
        checks.due("64 equal words, with other grams", x.difference(1, 3), 0);
        Puts.range(x, 2, 0, 64);
        checks.due("64 and 64 other words", x.difference(2, 3), 128);
        x.put(0, 9999, 1);
        checks.due("a number behind all of 64", x.difference(0, 2), 65);
        checks.due("the other way", x.difference(2, 0), 65);
    }
}
