/** Promises 14 to 22: told, start, had, latest, sum, locked, sees, calm, count. */
public final class AnswerTest {
    private static final int BAD = -1, NONE = -4;
    private static final int[] FAR = {-1, Integer.MIN_VALUE, Integer.MAX_VALUE};
    private static final Check check = new Check();

    public static void main(String[] args) {
        told();
        safeAndEverywhere();
        starts();
        had();
        latestAndSum();
        locked();
        sees();
        calm();
        counts();
        check.end();
    }

    /** Things 0 plain at 0, 1 plain at 1, 2 a set at 2, 3 plain at 2. */
    private static FarStore store() {
        FarStore x = new FarStore();
        x.thing(0, false);
        x.thing(1, false);
        x.thing(2, true);
        x.thing(2, false);
        return x;
    }

    private static void dueTold(FarStore x, int t, int... due) {
        for (int what = 0; what < due.length; what++) {
            check.due("told(" + t + ", " + what + ")", x.told(t, what), due[what]);
        }
    }

    private static void told() {
        FarStore x = store();
        x.begin(1);
        dueTold(x, 0, 0, 1, 0, 0, 0, 0, 0, 0, 0, BAD);
        x.write(0, 0, 1);
        x.write(0, 1, 1);
        x.write(0, 3, 1);
        x.write(0, 3, 2);
        x.add(0, 2, 0, 1);
        dueTold(x, 0, 0, 1, 0, 0, 0, 0, 3, 0, 0, BAD);
        x.commit(0);
        dueTold(x, 0, 1, 1, 0, 0, 0, 0, 3, 0, 2, BAD);
        x.all(3);
        dueTold(x, 0, 1, 1, 0, 0, 0, 0, 3, 1, 2, BAD);
        x.all(1);
        dueTold(x, 0, 2, 1, 1, 0, 0, 0, 3, 2, 2, BAD);
        x.all(3);
        dueTold(x, 0, 2, 1, 1, 1, 1, 0, 3, 2, 2, BAD);
        x.all(1);
        dueTold(x, 0, 2, 1, 1, 2, 1, 1, 3, 2, 2, BAD);
        check.due("no such transaction", x.told(1, 0), BAD);
        for (int far : FAR) {
            check.due("told(far, 0)", x.told(far, 0), BAD);
            check.due("told(0, far)", x.told(0, far), BAD);
        }
    }

    private static void safeAndEverywhere() {
        for (int n = 2; n <= 4; n++) {
            for (int f = 0; f < n; f++) {
                safeAndEverywhere(n, f);
            }
        }
    }

    private static void safeAndEverywhere(int n, int f) {
        FarStore x = new FarStore();
        x.sites(n, f);
        x.thing(0, true);
        x.begin(0);
        x.begin(0);
        x.commit(1);
        check.due("open: SAFE", x.told(0, 4), 0);
        check.due("without a COMMIT: SAFE", x.told(1, 4), 0);
        check.due("without a COMMIT: EVERYWHERE", x.told(1, 5), 0);
        x.add(0, 0, 0, 1);
        x.commit(0);
        x.all(n - 1);
        for (int acks = 0; acks < n; acks++) {
            String where = "n " + n + ", F " + f + ", ACKS " + acks + ": ";
            check.due(where + "ACKS", x.told(0, 3), acks);
            check.due(where + "SAFE", x.told(0, 4), acks >= f ? 1 : 0);
            check.due(where + "EVERYWHERE", x.told(0, 5), acks == n - 1 ? 1 : 0);
            check.due(where + "count(9)", x.count(9), acks >= f ? 1 : 0);
            x.deliver(0);
        }
    }

    private static void addOne(FarStore x, int site) {
        int t = x.begin(site);
        x.add(t, 2, 0, 1);
        x.commit(t);
    }

    private static void starts() {
        FarStore x = store();
        addOne(x, 0);
        addOne(x, 1);
        addOne(x, 1);
        x.begin(0);
        check.due("start(3, 0)", x.start(3, 0), 1);
        check.due("start(3, 1)", x.start(3, 1), 0);
        x.all(500);
        x.begin(2);
        check.due("start(4, 0)", x.start(4, 0), 1);
        check.due("start(4, 1)", x.start(4, 1), 2);
        check.due("start(4, 2)", x.start(4, 2), 0);
        x.add(4, 2, 0, 1);
        x.commit(4);
        check.due("its own COMMIT is not in it", x.start(4, 2), 0);
        check.due("a START stays", x.start(3, 1), 0);
        check.due("no such site", x.start(3, 3), BAD);
        check.due("no such transaction", x.start(5, 0), BAD);
        for (int far : FAR) {
            check.due("start(far, 0)", x.start(far, 0), BAD);
            check.due("start(0, far)", x.start(0, far), BAD);
        }
    }

    private static void had() {
        FarStore x = store();
        addOne(x, 0);
        addOne(x, 0);
        addOne(x, 1);
        x.deliver(1);
        int[][] due = {{2, 0, 0}, {0, 1, 0}, {1, 0, 0}};
        for (int s = 0; s < 3; s++) {
            for (int of = 0; of < 3; of++) {
                check.due("had(" + s + ", " + of + ")", x.had(s, of), due[s][of]);
            }
        }
        check.due("had(3, 0)", x.had(3, 0), BAD);
        check.due("had(0, 3)", x.had(0, 3), BAD);
        for (int far : FAR) {
            check.due("had(far, 0)", x.had(far, 0), BAD);
            check.due("had(0, far)", x.had(0, far), BAD);
        }
    }

    private static void latestAndSum() {
        FarStore x = store();
        x.begin(0);
        x.write(0, 0, -7);
        x.add(0, 2, 7, -5);
        x.add(0, 2, 0, 2);
        check.due("not what an open one wrote", x.latest(0, 0), 0);
        check.due("not what an open one added", x.sum(0, 2, 7), 0);
        x.commit(0);
        x.deliver(1);
        long[] due = {-7, 0, -7};
        long[] sums = {-5, 0, -5};
        for (int s = 0; s < 3; s++) {
            check.due("latest(" + s + ", 0)", x.latest(s, 0), due[s]);
            check.due("sum(" + s + ", 2, 7)", x.sum(s, 2, 7), sums[s]);
        }
        check.due("sum(0, 2, 0)", x.sum(0, 2, 0), 2);
        check.due("sum(0, 2, 1)", x.sum(0, 2, 1), 0);
        check.due("sum(0, 2, 8)", x.sum(0, 2, 8), 0);
        check.due("latest of a set", x.latest(0, 2), 0);
        check.due("sum of a plain thing", x.sum(0, 0, 0), 0);
        check.due("no such thing", x.latest(0, 4), 0);
        check.due("no such thing", x.sum(0, 4, 0), 0);
        check.due("no such site", x.latest(3, 0), 0);
        check.due("no such site", x.sum(3, 2, 0), 0);
        for (int far : FAR) {
            check.due("latest(far, 0)", x.latest(far, 0), 0);
            check.due("latest(0, far)", x.latest(0, far), 0);
            check.due("sum(far, 2, 0)", x.sum(far, 2, 0), 0);
            check.due("sum(0, far, 0)", x.sum(0, far, 0), 0);
            check.due("sum(0, 2, far)", x.sum(0, 2, far), 0);
        }
    }

    private static void locked() {
        FarStore x = store();
        x.begin(0);
        x.begin(0);
        x.write(1, 0, 1);
        x.write(1, 1, 1);
        x.commit(1);
        check.due("its own", x.locked(0, 0), 1);
        check.due("not at its home yet", x.locked(1, 1), NONE);
        x.deliver(0);
        check.due("at its home", x.locked(1, 1), 1);
        check.due("not where it is not at home", x.locked(0, 1), NONE);
        check.due("not where it is not at home", x.locked(1, 0), NONE);
        check.due("a set", x.locked(2, 2), NONE);
        check.due("no such thing", x.locked(0, 4), BAD);
        check.due("no such site", x.locked(3, 0), BAD);
        for (int far : FAR) {
            check.due("locked(far, 0)", x.locked(far, 0), BAD);
            check.due("locked(0, far)", x.locked(0, far), BAD);
        }
    }

    private static void sees() {
        FarStore x = store();
        addOne(x, 0);
        x.begin(0);
        x.begin(1);
        addOne(x, 0);
        check.due("its site had it", x.sees(1, 0), 1);
        check.due("its site had it later", x.sees(1, 3), 0);
        check.due("its site had it not", x.sees(2, 0), 0);
        check.due("it is that one", x.sees(0, 0), 1);
        check.due("one that came later", x.sees(3, 0), 1);
        check.due("the other way round", x.sees(0, 3), 0);
        check.due("the other one is open", x.sees(0, 1), NONE);
        check.due("it is that one, with no COMMIT", x.sees(1, 1), NONE);
        x.commit(1);
        x.abort(2);
        check.due("committed with no COMMIT", x.sees(0, 1), NONE);
        check.due("the other one is aborted", x.sees(0, 2), NONE);
        check.due("no such transaction", x.sees(4, 0), BAD);
        check.due("no such other one", x.sees(0, 4), BAD);
        for (int far : FAR) {
            check.due("sees(far, 0)", x.sees(far, 0), BAD);
            check.due("sees(0, far)", x.sees(0, far), BAD);
        }
    }

    private static void calm() {
        FarStore x = store();
        check.due("at first", x.calm(), 1);
        x.begin(0);
        x.write(0, 1, 1);
        x.commit(0);
        check.due("an ASK is no COMMIT", x.calm(), 1);
        x.all(2);
        check.due("a COMMIT", x.calm(), 0);
        x.all(1);
        check.due("one site has it not", x.calm(), 0);
        x.all(1);
        check.due("all have had it, with ACKs under way", x.calm(), 1);
        check.due("ACKs", x.count(4), 2);
    }

    private static void counts() {
        FarStore x = store();
        x.begin(0);
        x.begin(0);
        x.begin(1);
        x.begin(2);
        x.begin(2);
        x.write(0, 0, 1);
        x.write(1, 0, 2);
        x.write(2, 1, 3);
        x.write(2, 3, 3);
        x.commit(0);
        x.commit(1);
        x.commit(2);
        x.commit(3);
        int[] due = {3, 1, 4, 5, 3, 2, 1, 1, 1, 0};
        for (int what = 0; what < due.length; what++) {
            check.due("count(" + what + ")", x.count(what), due[what]);
        }
        x.deliver(0);
        x.deliver(2);
        check.due("SAFE", x.count(9), 1);
        check.due("messages", x.count(4), 2);
        x.deliver(1);
        check.due("LOCKS", x.count(8), 2);
        check.due("count(10)", x.count(10), BAD);
        for (int far : FAR) {
            check.due("count(far)", x.count(far), BAD);
        }
    }
}
