/** Compares answers with those that are due, and tells at the end whether all were. */
final class Check {
    private static final int PROMISES = 22;

    private final boolean[] named = new boolean[PROMISES + 1];
    private String sentence = "";
    private int wrong = 0;
    private int looked = 0;

    /** What follows looks at this sentence of a promise, or (promise 0) of the document's parts ahead of them. */
    void sentence(int promise, String words) {
        named[promise] = true;
        sentence = (promise == 0 ? "ahead of the promises" : "promise " + promise) + " '" + words + "': ";
    }

    void due(String call, long got, long want) {
        looked++;
        if (got != want) {
            wrong++;
            System.out.println(sentence + call + " answered " + got + ", due is " + want);
        }
    }

    void holds(String what, boolean is) {
        due(what, is ? 1 : 0, 1);
    }

    /** Each of these promises has to have been named by a sentence. */
    void hasNamed(int... promises) {
        sentence = "";
        for (int promise : promises) {
            holds("a sentence of promise " + promise + " is looked at", named[promise]);
        }
    }

    void end() {
        System.out.println(wrong == 0 ? looked + " answers are as due" : wrong + " answers are not as due");
        if (wrong != 0) {
            System.exit(1);
        }
    }
}
