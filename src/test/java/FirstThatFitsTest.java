/** Two cases at once: of BAD, STATE, FULL and NONE the first that fits is the answer. */
public final class FirstThatFitsTest {
    private static final int BAD = -1, STATE = -2, FULL = -3, NONE = -4;
    private static final int[] WRONG_SITES = {-1, 3, 4, Integer.MIN_VALUE, Integer.MAX_VALUE};
    private static final int[] WRONG_ELEMENTS = {-1, 8, Integer.MIN_VALUE, Integer.MAX_VALUE};
    private static final int OPEN = 0, ASKING = 1, COMMITTED = 2, ABORTED = 3;
    private static final Check check = new Check();

    public static void main(String[] args) {
        sitesInUse();
        fullOfThings();
        fullOfTransactions();
        for (int state = ASKING; state <= ABORTED; state++) {
            notOpenAndWrong(state);
        }
        lockedByNone();
        seesNone();
        bothWrong();
        check.hasNamed(2, 3, 4, 7, 8, 9, 10, 13, 14, 15, 16, 19, 20);
        check.end();
    }

    private static void sitesInUse() {
        int[][] wrong = {{1, 0}, {5, 0}, {2, 2}, {3, 3}, {4, 4}, {3, -1}, {1, 1}, {5, 5},
            {Integer.MIN_VALUE, Integer.MAX_VALUE}, {Integer.MIN_VALUE, 0}, {Integer.MAX_VALUE, 0}};
        check.sentence(2, "BAD; STATE: there are THINGS, TRANSACTIONS");
        FarStore x = new FarStore();
        x.thing(0, true);
        FarStore y = new FarStore();
        y.begin(0);
        FarStore both = new FarStore();
        both.thing(0, false);
        both.begin(0);
        for (FarStore z : new FarStore[] {x, y, both}) {
            for (int[] w : wrong) {
                check.due("sites(" + w[0] + ", " + w[1] + ") in use", z.sites(w[0], w[1]), BAD);
            }
            for (int n = 2; n <= 4; n++) {
                for (int f = 0; f < n; f++) {
                    check.due("sites(" + n + ", " + f + ") in use", z.sites(n, f), STATE);
                }
            }
        }
    }

    private static void fullOfThings() {
        check.sentence(3, "BAD; FULL");
        FarStore x = new FarStore();
        for (int i = 0; i < 12; i++) {
            x.thing(0, false);
        }
        for (int home : WRONG_SITES) {
            check.due("thing(" + home + ", ..) when full", x.thing(home, false), BAD);
            check.due("thing(" + home + ", ..) when full", x.thing(home, true), BAD);
        }
        check.due("thing(0, false) when full", x.thing(0, false), FULL);
        check.due("thing(2, true) when full", x.thing(2, true), FULL);
    }

    private static void fullOfTransactions() {
        check.sentence(4, "BAD; FULL");
        FarStore x = new FarStore();
        for (int i = 0; i < 150; i++) {
            x.begin(0);
        }
        for (int site : WRONG_SITES) {
            check.due("begin(" + site + ") when full", x.begin(site), BAD);
        }
        check.due("begin(0) when full", x.begin(0), FULL);
        check.due("begin(2) when full", x.begin(2), FULL);
    }

    /** Things 0 plain at 0, 1 plain at 1, 2 a set; transaction 0 at site 0 in this state, 1 open. */
    private static FarStore inState(int state) {
        FarStore x = new FarStore();
        x.thing(0, false);
        x.thing(1, false);
        x.thing(2, true);
        x.begin(0);
        x.begin(0);
        x.write(0, state == ASKING ? 1 : 0, 4);
        if (state == ABORTED) {
            x.abort(0);
        } else if (state != OPEN) {
            x.commit(0);
        }
        return x;
    }

    private static void notOpenAndWrong(int state) {
        FarStore x = inState(state);
        check.due("its state", x.told(0, 0), state);
        check.sentence(7, "BAD: also a SET; STATE: it is not OPEN");
        check.due("write of a set, state " + state, x.write(0, 2, 1), BAD);
        for (int thing : new int[] {-1, 3, 12, Integer.MIN_VALUE, Integer.MAX_VALUE}) {
            check.due("write of thing " + thing + ", state " + state, x.write(0, thing, 1), BAD);
            check.due("add to thing " + thing + ", state " + state, x.add(0, thing, 0, 1), BAD);
        }
        check.due("write, state " + state, x.write(0, 0, 1), STATE);
        check.due("write of a new one, state " + state, x.write(0, 1, 1), STATE);
        check.sentence(8, "BAD: also a PLAIN one; STATE likewise");
        check.due("add to a plain one, state " + state, x.add(0, 0, 0, 1), BAD);
        for (int element : WRONG_ELEMENTS) {
            check.due("add to element " + element + ", state " + state, x.add(0, 2, element, 1), BAD);
        }
        check.due("add, state " + state, x.add(0, 2, 0, 1), STATE);
        check.due("add of 0, state " + state, x.add(0, 2, 7, 0), STATE);
        check.sentence(9, "BAD; STATE likewise");
        check.due("commit, state " + state, x.commit(0), STATE);
        check.due("commit of none, state " + state, x.commit(2), BAD);
        check.sentence(10, "BAD; STATE likewise");
        check.due("abort, state " + state, x.abort(0), STATE);
        check.due("abort of none, state " + state, x.abort(2), BAD);
        check.due("its state after all that", x.told(0, 0), state);
    }

    private static void lockedByNone() {
        check.sentence(19, "BAD; NONE");
        FarStore x = inState(ASKING);
        x.deliver(0);
        for (int site : WRONG_SITES) {
            check.due("site " + site + ", a locked thing", x.locked(site, 1), BAD);
            check.due("site " + site + ", a thing that is not", x.locked(site, 0), BAD);
            check.due("site " + site + ", a set", x.locked(site, 2), BAD);
            check.due("site " + site + ", no thing", x.locked(site, 3), BAD);
        }
        check.due("no thing", x.locked(1, 3), BAD);
        check.due("locked at its home", x.locked(1, 1), 0);
        check.due("not at another site", x.locked(0, 1), NONE);
        check.due("a plain one that is not", x.locked(0, 0), NONE);
        check.due("a set can not be", x.locked(2, 2), NONE);
    }

    private static void seesNone() {
        check.sentence(20, "BAD; NONE: the other one has no COMMIT");
        FarStore x = inState(ASKING);
        check.due("no such one, of an asking one", x.sees(2, 0), BAD);
        check.due("no such one, of an open one", x.sees(-1, 1), BAD);
        check.due("of no such one", x.sees(1, 2), BAD);
        check.due("neither is there", x.sees(2, 2), BAD);
        check.due("of an asking one", x.sees(1, 0), NONE);
        check.due("an asking one of itself", x.sees(0, 0), NONE);
        check.due("an open one of itself", x.sees(1, 1), NONE);
        FarStore y = inState(ABORTED);
        check.due("of an aborted one", y.sees(1, 0), NONE);
        check.due("an aborted one of itself", y.sees(0, 0), NONE);
        y.commit(1);
        check.due("of one that wrote nothing", y.sees(0, 1), NONE);
        check.due("one that wrote nothing of itself", y.sees(1, 1), NONE);
        FarStore z = inState(COMMITTED);
        check.due("of one with a COMMIT", z.sees(1, 0), 0);
        check.due("one with a COMMIT of itself", z.sees(0, 0), 1);
    }

    private static void bothWrong() {
        FarStore x = inState(COMMITTED);
        check.sentence(13, "BAD");
        check.due("no message, and no such question", x.message(2, 5), BAD);
        check.due("no message, and no such question", x.message(-1, -1), BAD);
        check.sentence(14, "BAD");
        check.due("no transaction, and no such question", x.told(2, 9), BAD);
        check.due("no transaction, and no such question", x.told(-1, -1), BAD);
        check.sentence(15, "BAD");
        check.due("no transaction and no site", x.start(2, 3), BAD);
        check.due("no transaction and no site", x.start(-1, -1), BAD);
        check.sentence(16, "BAD");
        check.due("no site of no site", x.had(3, 3), BAD);
        check.due("no site of no site", x.had(-1, -1), BAD);
    }
}
