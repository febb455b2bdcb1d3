import java.util.Arrays;

/** Four banks of records that are made equal two by two by samples of polynomials. */
public final class SampledBanks {
    public static final int BAD = -1;
    public static final int NONE = -2;
    public static final int FULL = -3;
    public static final int FAILED = -4;

    private static final int BANKS = 4;
    private static final int ROOM = 64;
    private static final int NUMBERS = 10000;
    private static final int MOST_COUNT = 500;
    private static final int WORD_STEP = 1024;
    private static final int MOST_REACH = 16;
    private static final int POINTS = MOST_REACH + 2;
    private static final long FIRST_POINT = 1073741824L;
    private static final long PRIME = 2147483647L;
    // The pairs that are settled by spread, in their order.
    private static final int[] SPREAD_FIRST = {0, 2, 0, 2, 0};
    private static final int[] SPREAD_SECOND = {1, 3, 2, 3, 1};

    private final Records[] banks = new Records[BANKS];
    // What a bank is about to take over waits here, so that both take what was there before.
    private final Records parcelOne = new Records();
    private final Records parcelTwo = new Records();
    private final Fraction fraction = new Fraction();
    private long sentNumbers;

    public SampledBanks() {
        for (int bank = 0; bank < BANKS; bank++) {
            banks[bank] = new Records();
        }
    }

    public int put(int bank, int number, int grams) {
        if (!isBank(bank) || !isNumber(number)) {
            return BAD;
        }
        Records records = banks[bank];
        int place = records.placeOf(number);
        boolean isNew = !records.holdsAt(place, number);
        int count = isNew ? 0 : records.versionAt(place) / 2;
        if (isNew && records.count == ROOM || count == MOST_COUNT) {
            return FULL;
        }
        int version = nextVersion(bank, count);
        records.store(wordOf(number, version), grams, false);
        return version;
    }

    public int drop(int bank, int number) {
        if (!isBank(bank) || !isNumber(number)) {
            return BAD;
        }
        Records records = banks[bank];
        int place = records.placeOf(number);
        if (!records.holdsAt(place, number) || records.dropMarks[place]) {
            return NONE;
        }
        int count = records.versionAt(place) / 2;
        if (count == MOST_COUNT) {
            return FULL;
        }
        int version = nextVersion(bank, count);
        records.store(wordOf(number, version), records.weights[place], true);
        return version;
    }

    public int version(int bank, int number) {
        if (!isBank(bank) || !isNumber(number)) {
            return BAD;
        }
        Records records = banks[bank];
        int place = records.placeOf(number);
        if (!records.holdsAt(place, number)) {
            return 0;
        }
        int version = records.versionAt(place);
        return records.dropMarks[place] ? -version : version;
    }

    public int grams(int bank, int number) {
        if (!isBank(bank) || !isNumber(number)) {
            return 0;
        }
        Records records = banks[bank];
        int place = records.placeOf(number);
        return records.holdsAt(place, number) ? records.weights[place] : 0;
    }

    public int size(int bank) {
        return isBank(bank) ? banks[bank].count : BAD;
    }

    public int word(int bank, int i) {
        if (!isBank(bank) || i < 0 || i >= banks[bank].count) {
            return BAD;
        }
        return banks[bank].words[i];
    }

    public int sample(int bank, int k) {
        if (!isBank(bank) || k < 0 || k >= POINTS) {
            return BAD;
        }
        return (int) banks[bank].sampleAt(FIRST_POINT + k);
    }

    public int exchange(int a, int b, int m) {
        if (!areTwoBanks(a, b) || !isReach(m)) {
            return BAD;
        }
        return runExchange(banks[a], banks[b], m);
    }

    public int list(int a, int b) {
        if (!areTwoBanks(a, b)) {
            return BAD;
        }
        return runListing(banks[a], banks[b]);
    }

    public int settle(int a, int b, int m) {
        if (!areTwoBanks(a, b) || !isReach(m)) {
            return BAD;
        }
        return runSettling(banks[a], banks[b], m);
    }

    public int spread(int m) {
        if (!isReach(m)) {
            return BAD;
        }
        int taken = 0;
        for (int i = 0; i < SPREAD_FIRST.length; i++) {
            int answer = runSettling(banks[SPREAD_FIRST[i]], banks[SPREAD_SECOND[i]], m);
            if (answer == FULL) {
                return FULL;
            }
            taken += answer;
        }
        return taken;
    }

    public int difference(int a, int b) {
        if (!areTwoBanks(a, b)) {
            return BAD;
        }
        Records one = banks[a];
        Records two = banks[b];
        return one.count + two.count - 2 * one.wordsSharedWith(two);
    }

    public long sent() {
        return sentNumbers;
    }

    public int degree(int what) {
        return isPart(what) ? fraction.part(what).degree : BAD;
    }

    public int factor(int what, int i) {
        if (!isPart(what) || i < 0 || i > fraction.part(what).degree) {
            return BAD;
        }
        return (int) fraction.part(what).factors[i];
    }

    private static boolean isBank(int bank) {
        return bank >= 0 && bank < BANKS;
    }

    private static boolean areTwoBanks(int a, int b) {
        return isBank(a) && isBank(b) && a != b;
    }

    private static boolean isNumber(int number) {
        return number >= 0 && number < NUMBERS;
    }

    private static boolean isReach(int m) {
        return m >= 1 && m <= MOST_REACH;
    }

    private static boolean isPart(int what) {
        return what == 0 || what == 1;
    }

    private static int nextVersion(int bank, int count) {
        return 2 * (count + 1) + bank % 2;
    }

    private static int wordOf(int number, int version) {
        return WORD_STEP * number + version;
    }

    private int runExchange(Records a, Records b, int m) {
        sentNumbers += m + 3;
        if (!fraction.find(a, b, m)) {
            return FAILED;
        }
        fraction.reduce();
        Polynomial up = fraction.up;
        Polynomial low = fraction.low;
        sentNumbers += up.degree + low.degree;
        parcelOne.becomeZerosAmong(b, low);
        parcelTwo.becomeZerosAmong(a, up);
        boolean allZerosKnown = parcelOne.count == low.degree && parcelTwo.count == up.degree;
        if (!allZerosKnown || !fraction.fitsSamples(m + 2)) {
            return FAILED;
        }
        int taken = deliverParcels(a, b);
        if (taken > 0) {
            sentNumbers += 2 * taken;
        }
        return taken;
    }

    private int runListing(Records a, Records b) {
        sentNumbers += 2 * (a.count + b.count);
        parcelOne.becomeAllOf(b);
        parcelTwo.becomeAllOf(a);
        return deliverParcels(a, b);
    }

    /** Parcel one goes to a and parcel two to b, each without what is no news there. */
    private int deliverParcels(Records a, Records b) {
        parcelOne.keepNewsFor(a);
        parcelTwo.keepNewsFor(b);
        if (a.countWith(parcelOne) > ROOM || b.countWith(parcelTwo) > ROOM) {
            return FULL;
        }
        a.storeAll(parcelOne);
        b.storeAll(parcelTwo);
        return parcelOne.count + parcelTwo.count;
    }

    private int runSettling(Records a, Records b, int m) {
        int reach = m;
        int answer = runExchange(a, b, reach);
        while (answer == FAILED && reach < MOST_REACH) {
            reach = Math.min(2 * reach, MOST_REACH);
            answer = runExchange(a, b, reach);
        }
        return answer == FAILED ? runListing(a, b) : answer;
    }

    /** Reckoning modulo the prime; all arguments and answers are 0 .. PRIME - 1. */
    private static final class Field {
        static long plus(long x, long y) {
            return (x + y) % PRIME;
        }

        static long minus(long x, long y) {
            return (x + PRIME - y) % PRIME;
        }

        static long times(long x, long y) {
            return x * y % PRIME;
        }

        /** By Fermat: x to the power PRIME - 2, for x other than 0. */
        static long inverse(long x) {
            long answer = 1;
            long square = x;
            for (long power = PRIME - 2; power > 0; power >>= 1) {
                if ((power & 1) == 1) {
                    answer = answer * square % PRIME;
                }
                square = square * square % PRIME;
            }
            return answer;
        }
    }

    /**
     * Records in the order of their words. As there is one for a number at most, this is the order
     * of their numbers too, and a new version leaves a record in its place.
     */
    private static final class Records {
        private final int[] words = new int[ROOM];
        private final int[] weights = new int[ROOM];
        private final boolean[] dropMarks = new boolean[ROOM];
        private int count;

        /** The place where the record of a number is, or would have to be put in. */
        int placeOf(int number) {
            int from = 0;
            int to = count;
            while (from < to) {
                int middle = (from + to) / 2;
                if (words[middle] / WORD_STEP < number) {
                    from = middle + 1;
                } else {
                    to = middle;
                }
            }
            return from;
        }

        boolean holdsAt(int place, int number) {
            return place < count && words[place] / WORD_STEP == number;
        }

        int versionAt(int place) {
            return words[place] % WORD_STEP;
        }

        /** Puts a record in, in place of the one of the same number if there is one. */
        void store(int word, int grams, boolean dropped) {
            int place = placeOf(word / WORD_STEP);
            if (!holdsAt(place, word / WORD_STEP)) {
                if (count >= ROOM) {
                    return;
                }
                for (int i = count; i > place; i--) {
                    copyRecord(this, i - 1, i);
                }
                count++;
            }
            words[place] = word;
            weights[place] = grams;
            dropMarks[place] = dropped;
        }

        long sampleAt(long point) {
            long product = 1;
            for (int i = 0; i < count; i++) {
                product = Field.times(product, point - words[i]);
            }
            return product;
        }

        int wordsSharedWith(Records other) {
            int shared = 0;
            for (int i = 0; i < count; i++) {
                int place = other.placeOf(words[i] / WORD_STEP);
                if (place < other.count && other.words[place] == words[i]) {
                    shared++;
                }
            }
            return shared;
        }

        void becomeAllOf(Records source) {
            count = 0;
            for (int i = 0; i < source.count; i++) {
                copyRecord(source, i, count);
                count++;
            }
        }

        void becomeZerosAmong(Records source, Polynomial polynomial) {
            count = 0;
            for (int i = 0; i < source.count; i++) {
                if (polynomial.valueAt(source.words[i]) == 0) {
                    copyRecord(source, i, count);
                    count++;
                }
            }
        }

        /** Leaves only what a bank has not, or has in a lesser version: then in a lesser word. */
        void keepNewsFor(Records bank) {
            int all = count;
            count = 0;
            for (int i = 0; i < all; i++) {
                int number = words[i] / WORD_STEP;
                int place = bank.placeOf(number);
                if (!bank.holdsAt(place, number) || bank.words[place] < words[i]) {
                    copyRecord(this, i, count);
                    count++;
                }
            }
        }

        private void copyRecord(Records source, int from, int to) {
            words[to] = source.words[from];
            weights[to] = source.weights[from];
            dropMarks[to] = source.dropMarks[from];
        }

        /** How many records there would be with those of a parcel stored. */
        int countWith(Records parcel) {
            int all = count;
            for (int i = 0; i < parcel.count; i++) {
                int number = parcel.words[i] / WORD_STEP;
                if (!holdsAt(placeOf(number), number)) {
                    all++;
                }
            }
            return all;
        }

        void storeAll(Records parcel) {
            for (int i = 0; i < parcel.count; i++) {
                store(parcel.words[i], parcel.weights[i], parcel.dropMarks[i]);
            }
        }
    }

    /** A polynomial over the field of degree MOST_REACH at most; the degree of 0 is -1. */
    private static final class Polynomial {
        private final long[] factors = new long[MOST_REACH + 1];
        private int degree;

        Polynomial() {
            factors[0] = 1;
        }

        void become(Polynomial other) {
            System.arraycopy(other.factors, 0, factors, 0, factors.length);
            degree = other.degree;
        }

        /** The power of that degree, plus unknowns of the equations as the lower factors. */
        void becomeSolution(Equations equations, int firstUnknown, int newDegree) {
            for (int i = 0; i < newDegree; i++) {
                factors[i] = equations.unknown(firstUnknown + i);
            }
            factors[newDegree] = 1;
            degree = newDegree;
        }

        long valueAt(long x) {
            long value = 0;
            for (int i = degree; i >= 0; i--) {
                value = Field.plus(Field.times(value, x), factors[i]);
            }
            return value;
        }

        void makeHighestOne() {
            if (degree < 0) {
                return;
            }
            long scale = Field.inverse(factors[degree]);
            for (int i = 0; i <= degree; i++) {
                factors[i] = Field.times(factors[i], scale);
            }
        }

        /** Becomes its remainder by a divisor whose highest factor is 1. */
        void becomeRemainder(Polynomial divisor) {
            divideInPlace(divisor);
            degree = Math.min(degree, divisor.degree - 1);
            while (degree >= 0 && factors[degree] == 0) {
                degree--;
            }
        }

        /** Becomes its quotient by a divisor of no higher degree whose highest factor is 1. */
        void becomeQuotient(Polynomial divisor) {
            divideInPlace(divisor);
            degree -= divisor.degree;
            for (int i = 0; i <= degree; i++) {
                factors[i] = factors[i + divisor.degree];
            }
        }

        /** Leaves the remainder below the divisor's degree, and the quotient from there on. */
        private void divideInPlace(Polynomial divisor) {
            for (int shift = degree - divisor.degree; shift >= 0; shift--) {
                long multiple = factors[shift + divisor.degree];
                for (int i = 0; i < divisor.degree; i++) {
                    long part = Field.times(multiple, divisor.factors[i]);
                    factors[shift + i] = Field.minus(factors[shift + i], part);
                }
            }
        }
    }

    /** As many linear equations over the field as there are unknowns. */
    private static final class Equations {
        private static final int FREE = -1;

        private final long[][] rows = new long[MOST_REACH][MOST_REACH + 1];
        private final int[] rowOfUnknown = new int[MOST_REACH];
        private int count;

        /**
         * At x, U times b's sample less L times a's sample is 0: the unknowns are the lower
         * factors of U, then those of L; the highest powers, whose factors are 1, go to the right.
         */
        void setRow(int row, long x, long sampleA, long sampleB, int u, int l) {
            long[] cells = rows[row];
            long upTerm = sampleB;
            for (int i = 0; i < u; i++) {
                cells[i] = upTerm;
                upTerm = Field.times(upTerm, x);
            }
            long lowTerm = Field.minus(0, sampleA);
            for (int i = 0; i < l; i++) {
                cells[u + i] = lowTerm;
                lowTerm = Field.times(lowTerm, x);
            }
            cells[u + l] = Field.minus(0, Field.plus(upTerm, lowTerm));
        }

        /** Whether the first newCount equations can all hold; if so, the unknowns are known. */
        boolean solve(int newCount) {
            count = newCount;
            Arrays.fill(rowOfUnknown, FREE);
            int used = 0;
            for (int column = 0; column < count; column++) {
                int row = rowWithout0(used, column);
                if (row < count) {
                    swapRows(row, used);
                    scaleRow(used, column, Field.inverse(rows[used][column]));
                    clearColumn(used, column);
                    rowOfUnknown[column] = used;
                    used++;
                }
            }
            return rightSidesAre0(used);
        }

        /** Free unknowns are 0: any values do, as the fraction stays the same. */
        long unknown(int column) {
            int row = rowOfUnknown[column];
            return row == FREE ? 0 : rows[row][count];
        }

        private int rowWithout0(int from, int column) {
            int row = from;
            while (row < count && rows[row][column] == 0) {
                row++;
            }
            return row;
        }

        private void swapRows(int one, int two) {
            long[] held = rows[one];
            rows[one] = rows[two];
            rows[two] = held;
        }

        private void scaleRow(int row, int from, long scale) {
            long[] cells = rows[row];
            for (int i = from; i <= count; i++) {
                cells[i] = Field.times(cells[i], scale);
            }
        }

        private void clearColumn(int used, int column) {
            long[] usedCells = rows[used];
            for (int row = 0; row < count; row++) {
                long[] cells = rows[row];
                long multiple = row == used ? 0 : cells[column];
                for (int i = column; multiple != 0 && i <= count; i++) {
                    cells[i] = Field.minus(cells[i], Field.times(multiple, usedCells[i]));
                }
            }
        }

        private boolean rightSidesAre0(int from) {
            for (int row = from; row < count; row++) {
                if (rows[row][count] != 0) {
                    return false;
                }
            }
            return true;
        }
    }

    /** UP and LOW of the latest exchange that found them, and the finding of new ones. */
    private static final class Fraction {
        private final Polynomial up = new Polynomial();
        private final Polynomial low = new Polynomial();
        private final Polynomial workOne = new Polynomial();
        private final Polynomial workTwo = new Polynomial();
        private final Equations equations = new Equations();
        private final long[] samplesOfA = new long[POINTS];
        private final long[] samplesOfB = new long[POINTS];

        Polynomial part(int what) {
            return what == 0 ? up : low;
        }

        /** Whether U and L are found, which then stand here unreduced; else the old ones stay. */
        boolean find(Records a, Records b, int m) {
            int d = a.count - b.count;
            if (d > m || d < -m) {
                return false;
            }
            takeSamples(a, b, m + 2);
            int n = (m - d) % 2 == 0 ? m : m - 1;
            int u = (n + d) / 2;
            int l = (n - d) / 2;
            for (int k = 0; k < n; k++) {
                equations.setRow(k, FIRST_POINT + k, samplesOfA[k], samplesOfB[k], u, l);
            }
            if (!equations.solve(n)) {
                return false;
            }
            up.becomeSolution(equations, 0, u);
            low.becomeSolution(equations, u, l);
            return true;
        }

        /** Divides both by their greatest common divisor, that Euclid finds in 17 steps at most. */
        void reduce() {
            workOne.become(up);
            workTwo.become(low);
            Polynomial great = workOne;
            Polynomial small = workTwo;
            for (int step = 0; step <= MOST_REACH && small.degree >= 0; step++) {
                small.makeHighestOne();
                great.becomeRemainder(small);
                Polynomial remainder = great;
                great = small;
                small = remainder;
            }
            up.becomeQuotient(great);
            low.becomeQuotient(great);
        }

        /** Whether UP and LOW fit the samples of the latest find at the first points. */
        boolean fitsSamples(int points) {
            for (int k = 0; k < points; k++) {
                long point = FIRST_POINT + k;
                long left = Field.times(up.valueAt(point), samplesOfB[k]);
                long right = Field.times(low.valueAt(point), samplesOfA[k]);
                if (left != right) {
                    return false;
                }
            }
            return true;
        }

        private void takeSamples(Records a, Records b, int points) {
            for (int k = 0; k < points; k++) {
                samplesOfA[k] = a.sampleAt(FIRST_POINT + k);
                samplesOfB[k] = b.sampleAt(FIRST_POINT + k);
            }
        }
    }
}
