import java.util.ArrayList;
import java.util.List;
import java.util.Random;

/**
 * Runs of calls, the same ones each time, whose answers are held against the model's. The shorter
 * ones leave calls enough, of the 512 that an object has, to look at all of it in the end.
 */
public final class ModelTest {
    private static final int RUNS = 160;
    private static final int LONG_RUN = 512;
    private static final int SHORT_RUN = 300;
    private static final int[] LEAST_AND_GREATEST = {1, 16};
    private static final Checks checks = new Checks();

    private final Banks banks = new Banks();
    private final Model model = new Model();
    private final List<Face.Call> calls = new ArrayList<>();
    private final Random random;
    private final int run;
    private final int numbers;
    private final int changesInTen;

    private ModelTest(int run) {
        this.run = run;
        random = new Random(run);
        numbers = new int[] {2, 6, 25, 66, 68, 90, 400, 10000}[run % 8];
        changesInTen = 3 + run % 7;
    }

    public static void main(String[] args) {
        for (int run = 0; run < RUNS && !checks.isWrong(); run++) {
            new ModelTest(run).go(run % 3 == 0 ? LONG_RUN : SHORT_RUN);
        }
        checks.finish();
    }

    private void go(int length) {
        while (calls.size() < length && !checks.isWrong()) {
            if (random.nextInt(10) < changesInTen) {
                change();
            } else if (random.nextInt(2) == 0) {
                equalise();
            } else if (random.nextInt(2) == 0) {
                lookAtBanks();
            } else {
                lookAtParts();
            }
        }
        if (length == SHORT_RUN) {
            State end = State.after(x -> calls.forEach(call -> call.on(x)));
            checks.same("the end of run " + run, end, State.of(model));
        }
    }

    private void change() {
        int bank = bank();
        int number = number();
        int grams = random.nextInt();
        if (random.nextInt(5) == 0) {
            ask("drop(" + bank + ", " + number + ")", x -> x.drop(bank, number));
        } else {
            ask("put(" + bank + ", " + number + ", " + grams + ")", x -> x.put(bank, number, grams));
        }
    }

    private void equalise() {
        int a = bank();
        int b = bank();
        int m = reach();
        String args = "(" + a + ", " + b + ", " + m + ")";
        switch (random.nextInt(12)) {
            case 0 -> ask("list" + args, x -> x.list(a, b));
            case 1, 2 -> ask("settle" + args, x -> x.settle(a, b, m));
            case 3 -> ask("spread(" + m + ")", x -> x.spread(m));
            default -> ask("exchange" + args, x -> x.exchange(a, b, m));
        }
    }

    private void lookAtBanks() {
        int bank = bank();
        int other = bank();
        int number = number();
        int i = random.nextInt(70) - 3;
        int k = random.nextInt(20) - 1;
        switch (random.nextInt(6)) {
            case 0 -> ask("version(" + bank + ", " + number + ")", x -> x.version(bank, number));
            case 1 -> ask("grams(" + bank + ", " + number + ")", x -> x.grams(bank, number));
            case 2 -> ask("size(" + bank + ")", x -> x.size(bank));
            case 3 -> ask("word(" + bank + ", " + i + ")", x -> x.word(bank, i));
            case 4 -> ask("sample(" + bank + ", " + k + ")", x -> x.sample(bank, k));
            default -> ask("difference(" + bank + ", " + other + ")", x -> x.difference(bank, other));
        }
    }

    private void lookAtParts() {
        int what = random.nextInt(20) == 0 ? random.nextInt(6) - 2 : random.nextInt(2);
        int i = random.nextInt(6) == 0 ? random.nextInt(20) - 1 : random.nextInt(4);
        switch (random.nextInt(4)) {
            case 0 -> ask("sent()", Face::sent);
            case 1 -> ask("degree(" + what + ")", x -> x.degree(what));
            default -> ask("factor(" + what + ", " + i + ")", x -> x.factor(what, i));
        }
    }

    private void ask(String name, Face.Call call) {
        calls.add(call);
        checks.due("run " + run + ", call " + calls.size() + ": " + name, call.on(banks), call.on(model));
    }

    private int bank() {
        return random.nextInt(40) == 0 ? random.nextInt(8) - 2 : random.nextInt(4);
    }

    private int number() {
        return random.nextInt(60) == 0 ? random.nextInt(10010) - 5 : random.nextInt(numbers);
    }

    private int reach() {
        return switch (random.nextInt(20)) {
            case 0 -> random.nextInt(21) - 2;
            case 1, 2, 3 -> LEAST_AND_GREATEST[random.nextInt(2)];
            default -> 1 + random.nextInt(16);
        };
    }
}
