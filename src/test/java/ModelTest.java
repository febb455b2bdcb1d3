import java.util.Random;

/** Runs of 512 calls, the same ones each time, whose answers are held against the model's. */
public final class ModelTest {
    private static final int RUNS = 60;
    private static final int CALLS = 512;
    private static final Checks checks = new Checks();

    private final SampledBanks banks = new SampledBanks();
    private final Model model = new Model();
    private final Random random;
    private final int run;
    private final int numbers;
    private final int putsInTen;

    private ModelTest(int run) {
        this.run = run;
        random = new Random(run);
        numbers = new int[] {6, 25, 66, 90, 400, 10000}[run % 6];
        putsInTen = 3 + run % 5;
    }

    public static void main(String[] args) {
        for (int run = 0; run < RUNS && !checks.isWrong(); run++) {
            new ModelTest(run).go();
        }
        checks.finish();
    }

    private void go() {
        for (int call = 0; call < CALLS && !checks.isWrong(); call++) {
            if (random.nextInt(10) < putsInTen) {
                change();
            } else if (random.nextInt(2) == 0) {
                equalise();
                lookAtParts();
            } else {
                look();
            }
        }
        lookAtAll();
    }

    private void change() {
        int bank = bank();
        int number = number();
        if (random.nextInt(5) == 0) {
            due("drop(" + bank + ", " + number + ")", banks.drop(bank, number), model.drop(bank, number));
        } else {
            int grams = random.nextInt();
            due("put(" + bank + ", " + number + ", " + grams + ")",
                    banks.put(bank, number, grams), model.put(bank, number, grams));
        }
    }

    private void equalise() {
        int a = bank();
        int b = bank();
        int m = reach();
        String args = "(" + a + ", " + b + ", " + m + ")";
        switch (random.nextInt(12)) {
            case 0 -> due("list" + args, banks.list(a, b), model.list(a, b));
            case 1, 2 -> due("settle" + args, banks.settle(a, b, m), model.settle(a, b, m));
            case 3 -> due("spread" + args, banks.spread(m), model.spread(m));
            default -> due("exchange" + args, banks.exchange(a, b, m), model.exchange(a, b, m));
        }
        due("sent()", banks.sent(), model.sent());
    }

    private void look() {
        int bank = bank();
        int other = bank();
        int number = number();
        int i = random.nextInt(70) - 3;
        int k = random.nextInt(20) - 1;
        String args = "(" + bank + ", " + other + " " + number + " " + i + " " + k + ")";
        switch (random.nextInt(6)) {
            case 0 -> due("version" + args, banks.version(bank, number), model.version(bank, number));
            case 1 -> due("grams" + args, banks.grams(bank, number), model.grams(bank, number));
            case 2 -> due("size" + args, banks.size(bank), model.size(bank));
            case 3 -> due("word" + args, banks.word(bank, i), model.word(bank, i));
            case 4 -> due("sample" + args, banks.sample(bank, k), model.sample(bank, k));
            default -> due("difference" + args, banks.difference(bank, other), model.difference(bank, other));
        }
    }

    private void lookAtParts() {
        for (int what = -1; what <= 2; what++) {
            due("degree(" + what + ")", banks.degree(what), model.degree(what));
            for (int i = -1; i <= model.degree(what) + 1; i++) {
                due("factor(" + what + ", " + i + ")", banks.factor(what, i), model.factor(what, i));
            }
        }
    }

    private void lookAtAll() {
        for (int bank = 0; bank < 4; bank++) {
            due("size(" + bank + ")", banks.size(bank), model.size(bank));
            for (int i = 0; i < model.size(bank); i++) {
                int word = model.word(bank, i);
                int number = word / 1024;
                due("word(" + bank + ", " + i + ")", banks.word(bank, i), word);
                due("version of " + number, banks.version(bank, number), model.version(bank, number));
                due("grams of " + number, banks.grams(bank, number), model.grams(bank, number));
            }
        }
    }

    private int bank() {
        return random.nextInt(40) == 0 ? random.nextInt(8) - 2 : random.nextInt(4);
    }

    private int number() {
        return random.nextInt(60) == 0 ? random.nextInt(10010) - 5 : random.nextInt(numbers);
    }

    private int reach() {
        return random.nextInt(40) == 0 ? random.nextInt(21) - 2 : 1 + random.nextInt(16);
    }

    private void due(String call, long got, long want) {
        checks.due("run " + run + ": " + call, got, want);
    }
}
