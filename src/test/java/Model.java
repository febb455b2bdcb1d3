import java.math.BigInteger;
import java.util.ArrayList;
import java.util.Arrays;
import java.util.List;
import java.util.TreeMap;

/**
 * The document read once more, without regard to speed or room: what SampledBanks is held against.
 * It shares no code with it, and fills what the equations leave free with other values.
 */
final class Model implements Face {
    private static final BigInteger PRIME = BigInteger.valueOf(2147483647L);
    private static final BigInteger FREE = BigInteger.valueOf(123456789L);

    private record Entry(int number, int version, int grams, boolean dropped) {
        int word() {
            return 1024 * number + version;
        }
    }

    private final List<TreeMap<Integer, Entry>> banks = new ArrayList<>();
    private List<BigInteger> up = List.of(BigInteger.ONE);
    private List<BigInteger> low = List.of(BigInteger.ONE);
    private long sent;

    Model() {
        for (int bank = 0; bank < 4; bank++) {
            banks.add(new TreeMap<>());
        }
    }

    public int put(int bank, int number, int grams) {
        if (noRecord(bank, number)) {
            return -1;
        }
        Entry old = banks.get(bank).get(number);
        if (old == null ? banks.get(bank).size() == 64 : old.version / 2 == 500) {
            return -3;
        }
        return keep(bank, number, old == null ? 0 : old.version, grams, false);
    }

    public int drop(int bank, int number) {
        if (noRecord(bank, number)) {
            return -1;
        }
        Entry old = banks.get(bank).get(number);
        if (old == null || old.dropped) {
            return -2;
        }
        return old.version / 2 == 500 ? -3 : keep(bank, number, old.version, old.grams, true);
    }

    private int keep(int bank, int number, int oldVersion, int grams, boolean dropped) {
        int version = (oldVersion / 2 + 1) * 2 + (bank & 1);
        banks.get(bank).put(number, new Entry(number, version, grams, dropped));
        return version;
    }

    public int version(int bank, int number) {
        if (noRecord(bank, number)) {
            return -1;
        }
        Entry entry = banks.get(bank).get(number);
        return entry == null ? 0 : entry.dropped ? -entry.version : entry.version;
    }

    public int grams(int bank, int number) {
        if (noRecord(bank, number) || !banks.get(bank).containsKey(number)) {
            return 0;
        }
        return banks.get(bank).get(number).grams;
    }

    public int size(int bank) {
        return noBank(bank) ? -1 : banks.get(bank).size();
    }

    public int word(int bank, int i) {
        if (noBank(bank) || i < 0 || i >= banks.get(bank).size()) {
            return -1;
        }
        return words(bank).stream().sorted().toList().get(i);
    }

    public int sample(int bank, int k) {
        return noBank(bank) || k < 0 || k > 17 ? -1 : sampleOf(bank, k).intValue();
    }

    public int exchange(int a, int b, int m) {
        if (noPair(a, b) || noReach(m)) {
            return -1;
        }
        sent += m + 3;
        int d = size(a) - size(b);
        if (Math.abs(d) > m) {
            return -4;
        }
        int n = Math.floorMod(m - d, 2) == 1 ? m - 1 : m;
        if (!findFraction(a, b, (n + d) / 2, (n - d) / 2)) {
            return -4;
        }
        sent += up.size() - 1 + low.size() - 1;
        for (int k = 0; k <= m + 1; k++) {
            BigInteger left = value(up, point(k)).multiply(sampleOf(b, k)).mod(PRIME);
            if (!left.equals(value(low, point(k)).multiply(sampleOf(a, k)).mod(PRIME))) {
                return -4;
            }
        }
        List<Entry> fromA = zeros(a, up);
        List<Entry> fromB = zeros(b, low);
        if (fromA.size() != up.size() - 1 || fromB.size() != low.size() - 1) {
            return -4;
        }
        int taken = takeOver(a, b, fromA, fromB);
        sent += taken > 0 ? 2L * taken : 0;
        return taken;
    }

    public int list(int a, int b) {
        if (noPair(a, b)) {
            return -1;
        }
        sent += 2L * size(a) + 2L * size(b);
        List<Entry> fromA = new ArrayList<>(banks.get(a).values());
        List<Entry> fromB = new ArrayList<>(banks.get(b).values());
        return takeOver(a, b, fromA, fromB);
    }

    public int settle(int a, int b, int m) {
        if (noPair(a, b) || noReach(m)) {
            return -1;
        }
        int answer = exchange(a, b, m);
        if (answer != -4) {
            return answer;
        }
        return m == 16 ? list(a, b) : settle(a, b, m > 8 ? 16 : 2 * m);
    }

    public int spread(int m) {
        if (noReach(m)) {
            return -1;
        }
        int all = 0;
        for (int[] pair : new int[][] {{0, 1}, {2, 3}, {0, 2}, {2, 3}, {0, 1}}) {
            int answer = settle(pair[0], pair[1], m);
            if (answer == -3) {
                return -3;
            }
            all += answer;
        }
        return all;
    }

    public int difference(int a, int b) {
        if (noPair(a, b)) {
            return -1;
        }
        List<Integer> onlyA = words(a);
        onlyA.removeAll(words(b));
        List<Integer> onlyB = words(b);
        onlyB.removeAll(words(a));
        return onlyA.size() + onlyB.size();
    }

    public long sent() {
        return sent;
    }

    public int degree(int what) {
        return what == 0 ? up.size() - 1 : what == 1 ? low.size() - 1 : -1;
    }

    public int factor(int what, int i) {
        if (i < 0 || i > degree(what) || degree(what) < 0) {
            return -1;
        }
        return (what == 0 ? up : low).get(i).intValue();
    }

    private static boolean noBank(int bank) {
        return bank < 0 || bank > 3;
    }

    private static boolean noRecord(int bank, int number) {
        return noBank(bank) || number < 0 || number > 9999;
    }

    private static boolean noPair(int a, int b) {
        return noBank(a) || noBank(b) || a == b;
    }

    private static boolean noReach(int m) {
        return m < 1 || m > 16;
    }

    private List<Integer> words(int bank) {
        List<Integer> words = new ArrayList<>();
        for (Entry entry : banks.get(bank).values()) {
            words.add(entry.word());
        }
        return words;
    }

    private static BigInteger point(int k) {
        return BigInteger.valueOf(1073741824L + k);
    }

    private BigInteger sampleOf(int bank, int k) {
        BigInteger product = BigInteger.ONE;
        for (int word : words(bank)) {
            product = product.multiply(point(k).subtract(BigInteger.valueOf(word))).mod(PRIME);
        }
        return product;
    }

    private List<Entry> zeros(int bank, List<BigInteger> polynomial) {
        List<Entry> zeros = new ArrayList<>();
        for (Entry entry : banks.get(bank).values()) {
            if (value(polynomial, BigInteger.valueOf(entry.word())).signum() == 0) {
                zeros.add(entry);
            }
        }
        return zeros;
    }

    private int takeOver(int a, int b, List<Entry> fromA, List<Entry> fromB) {
        TreeMap<Integer, Entry> newA = new TreeMap<>(banks.get(a));
        TreeMap<Integer, Entry> newB = new TreeMap<>(banks.get(b));
        int taken = takeInto(newB, fromA) + takeInto(newA, fromB);
        if (newA.size() > 64 || newB.size() > 64) {
            return -3;
        }
        banks.set(a, newA);
        banks.set(b, newB);
        return taken;
    }

    private static int takeInto(TreeMap<Integer, Entry> bank, List<Entry> entries) {
        int taken = 0;
        for (Entry entry : entries) {
            Entry own = bank.get(entry.number);
            if (own == null || own.version < entry.version) {
                bank.put(entry.number, entry);
                taken++;
            }
        }
        return taken;
    }

    private boolean findFraction(int a, int b, int u, int l) {
        int n = u + l;
        BigInteger[][] rows = new BigInteger[n][n + 1];
        for (int k = 0; k < n; k++) {
            BigInteger sampleA = sampleOf(a, k);
            BigInteger sampleB = sampleOf(b, k);
            for (int i = 0; i < u; i++) {
                rows[k][i] = point(k).pow(i).multiply(sampleB).mod(PRIME);
            }
            for (int i = 0; i < l; i++) {
                rows[k][u + i] = point(k).pow(i).multiply(sampleA).negate().mod(PRIME);
            }
            rows[k][n] = point(k).pow(l).multiply(sampleA)
                    .subtract(point(k).pow(u).multiply(sampleB)).mod(PRIME);
        }
        BigInteger[] unknowns = solve(rows, n);
        if (unknowns == null) {
            return false;
        }
        List<BigInteger> greatUp = new ArrayList<>(List.of(unknowns).subList(0, u));
        List<BigInteger> greatLow = new ArrayList<>(List.of(unknowns).subList(u, n));
        greatUp.add(BigInteger.ONE);
        greatLow.add(BigInteger.ONE);
        List<BigInteger> divisor = commonDivisor(greatUp, greatLow);
        up = divide(greatUp, divisor).get(0);
        low = divide(greatLow, divisor).get(0);
        return true;
    }

    /** Row by row to steps, then backwards; null when there is no solution. */
    private static BigInteger[] solve(BigInteger[][] rows, int n) {
        int[] columnOf = new int[n];
        int used = 0;
        for (int column = 0; column < n; column++) {
            int pivot = used;
            while (pivot < n && rows[pivot][column].signum() == 0) {
                pivot++;
            }
            if (pivot == n) {
                continue;
            }
            BigInteger[] row = rows[pivot];
            rows[pivot] = rows[used];
            rows[used] = row;
            BigInteger inverse = row[column].modInverse(PRIME);
            for (int other = used + 1; other < n; other++) {
                BigInteger share = rows[other][column].multiply(inverse).mod(PRIME);
                for (int i = column; i <= n; i++) {
                    rows[other][i] = rows[other][i].subtract(share.multiply(row[i])).mod(PRIME);
                }
            }
            columnOf[used++] = column;
        }
        for (int row = used; row < n; row++) {
            if (rows[row][n].signum() != 0) {
                return null;
            }
        }
        BigInteger[] unknowns = new BigInteger[n];
        Arrays.fill(unknowns, FREE);
        for (int row = used - 1; row >= 0; row--) {
            BigInteger rest = rows[row][n];
            for (int i = columnOf[row] + 1; i < n; i++) {
                rest = rest.subtract(rows[row][i].multiply(unknowns[i]));
            }
            BigInteger pivot = rows[row][columnOf[row]];
            unknowns[columnOf[row]] = rest.multiply(pivot.modInverse(PRIME)).mod(PRIME);
        }
        return unknowns;
    }

    private static BigInteger value(List<BigInteger> polynomial, BigInteger x) {
        BigInteger value = BigInteger.ZERO;
        for (int i = polynomial.size() - 1; i >= 0; i--) {
            value = value.multiply(x).add(polynomial.get(i)).mod(PRIME);
        }
        return value;
    }

    private static List<BigInteger> commonDivisor(List<BigInteger> one, List<BigInteger> two) {
        if (two.isEmpty()) {
            BigInteger scale = one.get(one.size() - 1).modInverse(PRIME);
            List<BigInteger> scaled = new ArrayList<>();
            for (BigInteger factor : one) {
                scaled.add(factor.multiply(scale).mod(PRIME));
            }
            return scaled;
        }
        return commonDivisor(two, divide(one, two).get(1));
    }

    /** Quotient and remainder; the polynomial 0 is the empty list. */
    private static List<List<BigInteger>> divide(List<BigInteger> whole, List<BigInteger> divisor) {
        List<BigInteger> rest = new ArrayList<>(whole);
        List<BigInteger> quotient = new ArrayList<>();
        BigInteger scale = divisor.get(divisor.size() - 1).modInverse(PRIME);
        while (rest.size() >= divisor.size()) {
            BigInteger share = rest.get(rest.size() - 1).multiply(scale).mod(PRIME);
            quotient.add(0, share);
            int shift = rest.size() - divisor.size();
            for (int i = 0; i < divisor.size(); i++) {
                BigInteger part = share.multiply(divisor.get(i));
                rest.set(shift + i, rest.get(shift + i).subtract(part).mod(PRIME));
            }
            rest.remove(rest.size() - 1);
        }
        while (!rest.isEmpty() && rest.get(rest.size() - 1).signum() == 0) {
            rest.remove(rest.size() - 1);
        }
        return List.of(quotient, rest);
    }
}
