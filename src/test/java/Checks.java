/** Counts the calls whose answer is not the one that is due, and prints the first ones. */
final class Checks {
    private static final int MOST_PRINTED = 40;

    private int wrong;
    private int looked;

    void due(String call, long got, long want) {
        look(got == want, call + " answered " + got + ", due is " + want);
    }

    void holds(String what, boolean is) {
        look(is, "does not hold: " + what);
    }

    boolean isWrong() {
        return wrong > 0;
    }

    void finish() {
        System.out.println(looked + " looked at, " + wrong + " wrong");
        if (wrong > 0) {
            System.exit(1);
        }
    }

    private void look(boolean right, String otherwise) {
        looked++;
        if (!right) {
            wrong++;
            if (wrong <= MOST_PRINTED) {
                System.out.println(otherwise);
            }
        }
    }
}
