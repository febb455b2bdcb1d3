/** Promises 1 to 8 and 13: a new object, and what one bank holds and tells. */
public final class RecordsTest {
    private static final int[] NO_BANKS = {-1, 4, Integer.MIN_VALUE, Integer.MAX_VALUE};
    private static final int[] NO_NUMBERS = {-1, 10000, Integer.MIN_VALUE, Integer.MAX_VALUE};
    private static final long PRIME = 2147483647L;

    private static final Checks checks = new Checks();

    public static void main(String[] args) {
        newObject();
        putMakesVersions();
        putRefuses();
        dropKeepsGrams();
        dropRefuses();
        countEndsAt500();
        versionAndGrams();
        wordsAreInOrder();
        samples();
        difference();
        checks.finish();
    }

    private static void newObject() {
        SampledBanks x = new SampledBanks();
        for (int bank = 0; bank < 4; bank++) {
            checks.due("size of a new bank", x.size(bank), 0);
            checks.due("word of a new bank", x.word(bank, 0), -1);
            checks.due("version in a new bank", x.version(bank, 0), 0);
            checks.due("grams in a new bank", x.grams(bank, 0), 0);
            checks.due("sample of a new bank", x.sample(bank, 0), 1);
        }
        checks.due("sent at first", x.sent(), 0);
        for (int what = 0; what < 2; what++) {
            checks.due("degree at first", x.degree(what), 0);
            checks.due("factor at first", x.factor(what, 0), 1);
            checks.due("factor behind the degree", x.factor(what, 1), -1);
        }
        checks.due("difference at first", x.difference(0, 3), 0);
    }

    private static void putMakesVersions() {
        SampledBanks x = new SampledBanks();
        for (int bank = 0; bank < 4; bank++) {
            for (int count = 1; count <= 3; count++) {
                int version = 2 * count + bank % 2;
                checks.due("put in bank " + bank, x.put(bank, 7, -count), version);
                checks.due("version in bank " + bank, x.version(bank, 7), version);
                checks.due("grams in bank " + bank, x.grams(bank, 7), -count);
                checks.due("size of bank " + bank, x.size(bank), 1);
            }
        }
        checks.due("put of number 0", x.put(0, 0, Integer.MIN_VALUE), 2);
        checks.due("put of number 9999", x.put(0, 9999, Integer.MAX_VALUE), 2);
        checks.due("least grams", x.grams(0, 0), Integer.MIN_VALUE);
        checks.due("most grams", x.grams(0, 9999), Integer.MAX_VALUE);
        checks.due("size", x.size(0), 3);
        checks.due("nothing sent", x.sent(), 0);

        x = new SampledBanks();
        x.put(1, 5, 50);
        checks.due("listing", x.list(0, 1), 1);
        checks.due("a version of the other bank", x.version(0, 5), 3);
        checks.due("put upon it is bank 0's own", x.put(0, 5, 51), 4);
        checks.due("listing", x.list(1, 0), 1);
        checks.due("drop upon that is bank 1's own", x.drop(1, 5), 7);
    }

    private static void putRefuses() {
        SampledBanks x = new SampledBanks();
        for (int bank : NO_BANKS) {
            checks.due("put in no bank", x.put(bank, 1, 1), -1);
        }
        for (int number : NO_NUMBERS) {
            checks.due("put of no number", x.put(0, number, 1), -1);
        }
        checks.due("nothing was put", x.size(0), 0);
        for (int i = 0; i < 64; i++) {
            checks.due("put", x.put(3, i, i), 3);
        }
        checks.due("put of a 65th", x.put(3, 64, 1), -3);
        checks.due("put of no number in a full bank", x.put(3, 10000, 1), -1);
        checks.due("size stays", x.size(3), 64);
        checks.due("version of the 65th", x.version(3, 64), 0);
        checks.due("put anew in a full bank", x.put(3, 63, 9), 5);
        checks.due("drop in a full bank", x.drop(3, 0), 5);
        checks.due("a dropped one takes room", x.put(3, 64, 1), -3);
        checks.due("put anew upon the dropped one", x.put(3, 0, 8), 7);
        checks.due("another bank has room", x.put(2, 64, 1), 2);
    }

    private static void dropKeepsGrams() {
        SampledBanks x = new SampledBanks();
        x.put(1, 20, 200);
        x.put(1, 30, 300);
        checks.due("drop", x.drop(1, 20), 5);
        checks.due("version of a dropped one", x.version(1, 20), -5);
        checks.due("grams of a dropped one", x.grams(1, 20), 200);
        checks.due("size with a dropped one", x.size(1), 2);
        checks.due("word of a dropped one", x.word(1, 0), 20 * 1024 + 5);
        checks.due("the other one is not dropped", x.version(1, 30), 3);
        checks.due("put upon a dropped one", x.put(1, 20, 201), 7);
        checks.due("it is no more dropped", x.version(1, 20), 7);
        checks.due("drop again", x.drop(1, 20), 9);
    }

    private static void dropRefuses() {
        SampledBanks x = new SampledBanks();
        for (int bank : NO_BANKS) {
            checks.due("drop in no bank", x.drop(bank, 1), -1);
        }
        for (int number : NO_NUMBERS) {
            checks.due("drop of no number", x.drop(0, number), -1);
        }
        checks.due("drop of none", x.drop(0, 5), -2);
        x.put(1, 5, 1);
        checks.due("drop of another bank's", x.drop(0, 5), -2);
        checks.due("drop", x.drop(1, 5), 5);
        checks.due("drop of a dropped one", x.drop(1, 5), -2);
        checks.due("version stays", x.version(1, 5), -5);
    }

    private static void countEndsAt500() {
        SampledBanks x = new SampledBanks();
        for (int count = 1; count <= 499; count++) {
            x.put(1, 9999, count);
        }
        checks.due("put to 500", x.put(1, 9999, 500), 1001);
        checks.due("put beyond 500", x.put(1, 9999, 501), -3);
        checks.due("drop beyond 500", x.drop(1, 9999), -3);
        checks.due("version stays", x.version(1, 9999), 1001);
        checks.due("grams stay", x.grams(1, 9999), 500);
        checks.due("the greatest word", x.word(1, 0), 9999 * 1024 + 1001);

        x = new SampledBanks();
        for (int count = 1; count <= 499; count++) {
            x.put(2, 3, count);
        }
        checks.due("drop to 500", x.drop(2, 3), 1000);
        checks.due("put upon the dropped one", x.put(2, 3, 1), -3);
        checks.due("drop of the dropped one", x.drop(2, 3), -2);
        checks.due("version stays", x.version(2, 3), -1000);
    }

    private static void versionAndGrams() {
        SampledBanks x = new SampledBanks();
        x.put(0, 1, 11);
        x.put(0, 3, 33);
        for (int bank : NO_BANKS) {
            checks.due("version in no bank", x.version(bank, 1), -1);
            checks.due("grams in no bank", x.grams(bank, 1), 0);
            checks.due("size of no bank", x.size(bank), -1);
            checks.due("word of no bank", x.word(bank, 0), -1);
            checks.due("sample of no bank", x.sample(bank, 0), -1);
        }
        for (int number : NO_NUMBERS) {
            checks.due("version of no number", x.version(0, number), -1);
            checks.due("grams of no number", x.grams(0, number), 0);
        }
        for (int number : new int[] {0, 2, 4, 9999}) {
            checks.due("version of no record", x.version(0, number), 0);
            checks.due("grams of no record", x.grams(0, number), 0);
        }
        checks.due("version of another bank", x.version(2, 1), 0);
        checks.due("grams of another bank", x.grams(2, 1), 0);
    }

    private static void wordsAreInOrder() {
        SampledBanks x = new SampledBanks();
        int[] numbers = {500, 9999, 0, 501, 499, 7};
        for (int number : numbers) {
            x.put(3, number, number);
        }
        x.put(3, 7, 1);
        int[] words = {3, 7 * 1024 + 5, 499 * 1024 + 3, 500 * 1024 + 3, 501 * 1024 + 3, 9999 * 1024 + 3};
        for (int i = 0; i < words.length; i++) {
            checks.due("word " + i, x.word(3, i), words[i]);
        }
        for (int i : new int[] {-1, 6, 64, Integer.MIN_VALUE, Integer.MAX_VALUE}) {
            checks.due("word " + i, x.word(3, i), -1);
        }
        for (int number : numbers) {
            checks.due("grams of " + number, x.grams(3, number), number == 7 ? 1 : number);
        }
    }

    private static void samples() {
        SampledBanks x = new SampledBanks();
        for (int i = 0; i < 64; i++) {
            x.put(2, i * 157 % 10000, i);
        }
        x.drop(2, 157);
        for (int k = 0; k < 18; k++) {
            long product = 1;
            for (int i = 0; i < 64; i++) {
                product = product * (1073741824L + k - x.word(2, i)) % PRIME;
            }
            checks.due("sample at point " + k, x.sample(2, k), product);
        }
        for (int k : new int[] {-1, 18, Integer.MIN_VALUE, Integer.MAX_VALUE}) {
            checks.due("sample at no point " + k, x.sample(2, k), -1);
        }
        x.put(1, 0, 0);
        checks.due("sample of one word", x.sample(1, 17), 1073741824 + 17 - 3);
    }

    private static void difference() {
        SampledBanks x = new SampledBanks();
        x.put(0, 1, 1);
        x.put(0, 2, 1);
        x.put(0, 3, 1);
        x.put(2, 2, 99);
        x.put(2, 3, 1);
        x.drop(2, 3);
        x.put(2, 4, 1);
        checks.due("difference", x.difference(0, 2), 4);
        checks.due("difference the other way", x.difference(2, 0), 4);
        checks.due("difference from an empty bank", x.difference(0, 1), 3);
        checks.due("difference of no two banks", x.difference(1, 1), -1);
        for (int bank : NO_BANKS) {
            checks.due("difference from no bank", x.difference(0, bank), -1);
            checks.due("difference of no bank", x.difference(bank, 0), -1);
        }
        checks.due("nothing was sent", x.sent(), 0);
    }
}
