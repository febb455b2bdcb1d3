/** Puts that many stories begin with. */
final class Puts {
    private Puts() {
    }

    /** The numbers from .. to - 1, each once. */
    static void range(Face x, int bank, int from, int to) {
        for (int number = from; number < to; number++) {
            x.put(bank, number, 3 * number + bank);
        }
    }

    /** These numbers in their order; one that stands twice is put anew. */
    static void all(Face x, int bank, int... numbers) {
        for (int number : numbers) {
            x.put(bank, number, number);
        }
    }

    static void times(Face x, int bank, int number, int times) {
        for (int count = 1; count <= times; count++) {
            x.put(bank, number, count);
        }
    }
}
