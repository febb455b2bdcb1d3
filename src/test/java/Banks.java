/** SampledBanks with its calls counted: nothing is promised behind the 512th. */
final class Banks implements Face {
    private static final int MOST_CALLS = 512;

    private final SampledBanks banks = new SampledBanks();
    private int calls;

    private SampledBanks asked() {
        calls++;
        if (calls > MOST_CALLS) {
            throw new IllegalStateException("the test calls one object more than 512 times");
        }
        return banks;
    }

    public int put(int bank, int number, int grams) {
        return asked().put(bank, number, grams);
    }

    public int drop(int bank, int number) {
        return asked().drop(bank, number);
    }

    public int version(int bank, int number) {
        return asked().version(bank, number);
    }

    public int grams(int bank, int number) {
        return asked().grams(bank, number);
    }

    public int size(int bank) {
        return asked().size(bank);
    }

    public int word(int bank, int i) {
        return asked().word(bank, i);
    }

    public int sample(int bank, int k) {
        return asked().sample(bank, k);
    }

    public int exchange(int a, int b, int m) {
        return asked().exchange(a, b, m);
    }

    public int list(int a, int b) {
        return asked().list(a, b);
    }

    public int settle(int a, int b, int m) {
        return asked().settle(a, b, m);
    }

    public int spread(int m) {
        return asked().spread(m);
    }

    public int difference(int a, int b) {
        return asked().difference(a, b);
    }

    public long sent() {
        return asked().sent();
    }

    public int degree(int what) {
        return asked().degree(what);
    }

    public int factor(int what, int i) {
        return asked().factor(what, i);
    }
}
