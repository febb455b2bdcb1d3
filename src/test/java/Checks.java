import java.util.ArrayList;
import java.util.List;

/** Counts the calls whose answer is not the one that is due, and prints the first ones. */
final class Checks {
    private static final int MOST_PRINTED = 40;
    private static final long PRIME = 2147483647L;

    private int wrong;
    private int looked;

    void due(String call, long got, long want) {
        look(got == want, call + " answered " + got + ", due is " + want);
    }

    void holds(String what, boolean is) {
        look(is, "does not hold: " + what);
    }

    /** The call behind the story answers so, and nothing that can be seen changes by it. */
    void refused(String call, Face.Story story, Face.Call refusal, long want) {
        answers(call, story, refusal, want);
        same(call + ": what is seen", State.after(story.then(refusal)), State.after(story));
    }

    /** The call answers so, changes no record, and sends so many numbers; UP and LOW may change. */
    void sendsInVain(String call, Face.Story story, Face.Call failure, long want, long numbers) {
        answers(call, story, failure, want);
        State before = State.after(story);
        State after = State.after(story.then(failure));
        same(call + ": records", after.records(), before.records());
        due(call + ": sent", after.sent() - before.sent(), numbers);
    }

    /** As it sends in vain, and UP and LOW stay too. */
    void findsNone(String call, Face.Story story, Face.Call failure, long want, long numbers) {
        sendsInVain(call, story, failure, want, numbers);
        State before = State.after(story);
        State after = State.after(story.then(failure));
        same(call + ": UP", after.up(), before.up());
        same(call + ": LOW", after.low(), before.low());
    }

    /** UP and LOW are, after the story, the products of (x - word) for these words. */
    void parts(String what, Face.Story story, int[] up, int[] low) {
        State state = State.after(story);
        same(what + ": UP", state.up(), product(up));
        same(what + ": LOW", state.low(), product(low));
    }

    /** All that can be seen after the story is as the model has it. */
    void likeModel(String what, Face.Story story) {
        Model model = new Model();
        story.tell(model);
        same(what + ": what is seen", State.after(story), State.of(model));
    }

    void same(String what, Object got, Object want) {
        look(got.equals(want), what + " is " + got + ", due is " + want);
    }

    boolean isWrong() {
        return wrong > 0;
    }

    void finish() {
        System.out.println(looked + " looked at, " + wrong + " wrong");
        if (wrong > 0) {
            System.exit(1);
        }
    }

    private void answers(String name, Face.Story story, Face.Call call, long want) {
        Banks x = new Banks();
        story.tell(x);
        due(name, call.on(x), want);
    }

    private static List<Long> product(int[] zeros) {
        List<Long> factors = new ArrayList<>(List.of(1L));
        for (int zero : zeros) {
            factors.add(0, 0L);
            for (int i = 0; i + 1 < factors.size(); i++) {
                long less = (PRIME - zero) * factors.get(i + 1) % PRIME;
                factors.set(i, (factors.get(i) + less) % PRIME);
            }
        }
        return factors;
    }

    private void look(boolean right, String otherwise) {
        looked++;
        if (!right) {
            wrong++;
            if (wrong <= MOST_PRINTED) {
                System.out.println(otherwise);
            }
        }
    }
}
