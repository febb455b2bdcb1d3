import java.util.ArrayList;
import java.util.List;
import java.util.function.Supplier;

/**
 * All that can be seen of an object after a story. Each bank is read off an object of its own that
 * hears the whole story, as one alone would be asked more than 512 times.
 */
record State(List<String> records, long sent, List<Long> up, List<Long> low) {
    static State after(Face.Story story) {
        return read(() -> {
            Banks banks = new Banks();
            story.tell(banks);
            return banks;
        });
    }

    /** The model may be asked as often as one likes, so one of it is enough. */
    static State of(Model model) {
        return read(() -> model);
    }

    private static State read(Supplier<Face> teller) {
        List<String> records = new ArrayList<>();
        for (int bank = 0; bank < 4; bank++) {
            addRecords(records, teller.get(), bank);
        }
        Face x = teller.get();
        return new State(records, x.sent(), part(x, 0), part(x, 1));
    }

    private static void addRecords(List<String> records, Face x, int bank) {
        int size = x.size(bank);
        for (int i = 0; i < size; i++) {
            int word = x.word(bank, i);
            int number = word / 1024;
            records.add(bank + ": word " + word + " version " + x.version(bank, number)
                    + " grams " + x.grams(bank, number));
        }
    }

    private static List<Long> part(Face x, int what) {
        List<Long> factors = new ArrayList<>();
        int degree = x.degree(what);
        for (int i = 0; i <= degree; i++) {
            factors.add((long) x.factor(what, i));
        }
        return factors;
    }
}
