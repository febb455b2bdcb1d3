/** The document's face, so that the program and the model can be told the same stories. */
interface Face {
    int BAD = -1;
    int NONE = -2;
    int FULL = -3;
    int FAILED = -4;

    int put(int bank, int number, int grams);

    int drop(int bank, int number);

    int version(int bank, int number);

    int grams(int bank, int number);

    int size(int bank);

    int word(int bank, int i);

    int sample(int bank, int k);

    int exchange(int a, int b, int m);

    int list(int a, int b);

    int settle(int a, int b, int m);

    int spread(int m);

    int difference(int a, int b);

    long sent();

    int degree(int what);

    int factor(int what, int i);

    /** A call and its answer. */
    interface Call {
        long on(Face x);
    }

    /** Calls that bring a new object into some state. */
    interface Story {
        void tell(Face x);

        default Story then(Call call) {
            return x -> {
                tell(x);
                call.on(x);
            };
        }
    }
}
