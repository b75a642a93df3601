import java.util.Arrays;

/**
 * For each number that a call takes: the least and the most that is taken, the one below and the one above, and the
 * ends of int. Every single call is made on a store of its own, so that none hides another.
 */
public final class RangeTest {
    private static final int BAD = -1, STATE = -2, FULL = -3, NONE = -4;
    private static final Check check = new Check();

    private interface Maker {
        FarStore make();
    }

    private interface Call {
        long on(FarStore x, int number);
    }

    public static void main(String[] args) {
        for (int n = 2; n <= 4; n++) {
            sitesAndHomes(n);
            for (int things : new int[] {1, 2, 12}) {
                plainThings(n, things);
                sets(n, things);
            }
            for (int many : new int[] {1, 2, 149, 150}) {
                transactions(n, many);
            }
            sitesOfAnswers(n);
            messages(n);
        }
        whats();
        check.hasNamed(2, 3, 4, 5, 6, 7, 8, 9, 10, 11, 12, 13, 14, 15, 16, 17, 18, 19, 20, 22);
        check.end();
    }

    /** From least to most the call answers these, in their order; beyond, it answers what it refuses with. */
    private static void range(String call, Maker maker, Call c, int least, long[] due, long beyond) {
        for (int i = 0; i < due.length; i++) {
            check.due(call + " with " + (least + i), c.on(maker.make(), least + i), due[i]);
        }
        int most = least + due.length - 1;
        for (int wrong : new int[] {least - 1, most + 1, Integer.MIN_VALUE, Integer.MAX_VALUE}) {
            check.due(call + " with " + wrong, c.on(maker.make(), wrong), beyond);
        }
    }

    private static long[] same(int many, long answer) {
        long[] due = new long[many];
        Arrays.fill(due, answer);
        return due;
    }

    private static long[] upFrom(int many, long first) {
        long[] due = new long[many];
        for (int i = 0; i < many; i++) {
            due[i] = first + i;
        }
        return due;
    }

    private static FarStore withSites(int n) {
        FarStore x = new FarStore();
        x.sites(n, n - 1);
        return x;
    }

    /** Things of one kind, at home at site 0 all. */
    private static FarStore withThings(int n, int things, boolean set) {
        FarStore x = withSites(n);
        for (int i = 0; i < things; i++) {
            x.thing(0, set);
        }
        return x;
    }

    private static FarStore withTransactions(int n, int many) {
        FarStore x = withThings(n, 1, false);
        x.thing(0, true);
        for (int t = 0; t < many; t++) {
            x.begin(0);
        }
        return x;
    }

    private static void sitesAndHomes(int n) {
        check.sentence(2, "n 2 to 4");
        range("sites(.., 0)", FarStore::new, (x, a) -> x.sites(a, 0), 2, same(3, 1), BAD);
        check.sentence(2, "F (0 to n - 1)");
        range("sites(" + n + ", ..)", FarStore::new, (x, a) -> x.sites(n, a), 0, same(n, 1), BAD);
        check.sentence(3, "a HOME (a SITE)");
        range("thing(.., false)", () -> withSites(n), (x, a) -> x.thing(a, false), 0, same(n, 0), BAD);
        range("thing(.., true)", () -> withSites(n), (x, a) -> x.thing(a, true), 0, same(n, 0), BAD);
        check.sentence(4, "A TRANSACTION begins at a SITE");
        range("begin(..)", () -> withSites(n), (x, a) -> x.begin(a), 0, same(n, 0), BAD);
    }

    /** Transaction 0 has committed 10 + thing as each thing's value, transaction 1 is open and sees it. */
    private static FarStore withValues(int n, int things) {
        FarStore x = withThings(n, things, false);
        x.begin(0);
        for (int i = 0; i < things; i++) {
            x.write(0, i, 10 + i);
        }
        x.commit(0);
        x.begin(0);
        return x;
    }

    private static void plainThings(int n, int things) {
        Maker maker = () -> withValues(n, things);
        check.sentence(5, "0 also: there is none such");
        range("read(1, ..)", maker, (x, a) -> x.read(1, a), 0, upFrom(things, 10), 0);
        range("read(.., last)", maker, (x, a) -> x.read(a, things - 1), 0, same(2, 9 + things), 0);
        check.sentence(7, "BAD");
        range("write(1, .., 5)", maker, (x, a) -> x.write(1, a, 5), 0, same(things, 1), BAD);
        check.sentence(17, "0 also: there is none such");
        range("latest(0, ..)", maker, (x, a) -> x.latest(0, a), 0, upFrom(things, 10), 0);
        range("latest(.., last)", () -> delivered(maker.make()), (x, a) -> x.latest(a, things - 1), 0,
            same(n, 9 + things), 0);
        check.sentence(19, "BAD; NONE");
        range("locked(0, ..)", maker, (x, a) -> x.locked(0, a), 0, same(things, NONE), BAD);
        range("locked(.., last)", maker, (x, a) -> x.locked(a, things - 1), 0, same(n, NONE), BAD);
    }

    private static FarStore delivered(FarStore x) {
        x.all(500);
        return x;
    }

    /** Transaction 0 has committed a count of 10 + thing for element 0 and of 100 + element for the last thing. */
    private static FarStore withCounts(int n, int things) {
        FarStore x = withThings(n, things, true);
        x.begin(0);
        for (int i = 0; i < things - 1; i++) {
            x.add(0, i, 0, 10 + i);
        }
        for (int e = 0; e < 8; e++) {
            x.add(0, things - 1, e, 100 + e);
        }
        x.commit(0);
        x.begin(0);
        return x;
    }

    private static void sets(int n, int things) {
        Maker maker = () -> withCounts(n, things);
        long[] ofThings = upFrom(things, 10);
        ofThings[things - 1] = 100;
        check.sentence(6, "0 also: there is none such");
        range("counted(1, last, ..)", maker, (x, a) -> x.counted(1, things - 1, a), 0, upFrom(8, 100), 0);
        range("counted(1, .., 0)", maker, (x, a) -> x.counted(1, a, 0), 0, ofThings, 0);
        range("counted(.., last, 7)", maker, (x, a) -> x.counted(a, things - 1, 7), 0, same(2, 107), 0);
        check.sentence(8, "BAD");
        range("add(1, last, .., 1)", maker, (x, a) -> x.add(1, things - 1, a, 1), 0, same(8, 1), BAD);
        range("add(1, .., 7, 1)", maker, (x, a) -> x.add(1, a, 7, 1), 0, same(things, 1), BAD);
        check.sentence(18, "Of an ELEMENT of a SET likewise");
        range("sum(0, last, ..)", maker, (x, a) -> x.sum(0, things - 1, a), 0, upFrom(8, 100), 0);
        range("sum(0, .., 0)", maker, (x, a) -> x.sum(0, a, 0), 0, ofThings, 0);
        range("sum(.., last, 7)", () -> delivered(maker.make()), (x, a) -> x.sum(a, things - 1, 7), 0, same(n, 107), 0);
    }

    private static void transactions(int n, int many) {
        Maker maker = () -> withTransactions(n, many);
        check.sentence(7, "BAD");
        range("write(.., 0, 1)", maker, (x, a) -> x.write(a, 0, 1), 0, same(many, 1), BAD);
        check.sentence(8, "BAD");
        range("add(.., 1, 0, 1)", maker, (x, a) -> x.add(a, 1, 0, 1), 0, same(many, 1), BAD);
        check.sentence(9, "BAD");
        range("commit(..)", maker, (x, a) -> x.commit(a), 0, same(many, 2), BAD);
        check.sentence(10, "BAD");
        range("abort(..)", maker, (x, a) -> x.abort(a), 0, same(many, 1), BAD);
        check.sentence(14, "BAD");
        range("told(.., 0)", maker, (x, a) -> x.told(a, 0), 0, same(many, 0), BAD);
        check.sentence(15, "BAD");
        range("start(.., 0)", maker, (x, a) -> x.start(a, 0), 0, same(many, 0), BAD);
        check.sentence(20, "BAD; NONE: the other one has no COMMIT");
        range("sees(0, ..)", maker, (x, a) -> x.sees(0, a), 0, same(many, NONE), BAD);
        long[] onlyItself = same(many, 0);
        onlyItself[0] = 1;
        range("sees(.., 0)", () -> withFirstCommitted(n, many), (x, a) -> x.sees(a, 0), 0, onlyItself, BAD);
    }

    private static FarStore withFirstCommitted(int n, int many) {
        FarStore x = withTransactions(n, many);
        x.write(0, 0, 1);
        x.commit(0);
        return x;
    }

    /** Site s has s + 1 commits, and all sites have had all; transaction 10 began at site 0 after that at n 4. */
    private static FarStore withCommits(int n) {
        FarStore x = withThings(n, 1, true);
        for (int s = 0; s < n; s++) {
            for (int i = 0; i <= s; i++) {
                int t = x.begin(s);
                x.add(t, 0, 0, 1);
                x.commit(t);
            }
        }
        return delivered(x);
    }

    private static void sitesOfAnswers(int n) {
        Maker maker = () -> withCommits(n);
        check.sentence(15, "How many COMMITS of a SITE its START has. BAD");
        range("start(new one, ..)", maker, (x, a) -> x.start(x.begin(0), a), 0, upFrom(n, 1), BAD);
        check.sentence(16, "BAD");
        range("had(0, ..)", maker, (x, a) -> x.had(0, a), 0, upFrom(n, 1), BAD);
        range("had(.., n - 1)", maker, (x, a) -> x.had(a, n - 1), 0, same(n, n), BAD);
        range("had(.., ..)", maker, (x, a) -> x.had(a, a), 0, upFrom(n, 1), BAD);
    }

    /** Two commits of site 0: the SENDs of the second can not come yet. */
    private static FarStore withMessages(int n) {
        FarStore x = withThings(n, 1, false);
        for (int t = 0; t < 2; t++) {
            x.begin(0);
            x.write(t, 0, t);
            x.commit(t);
        }
        return x;
    }

    private static void messages(int n) {
        long[] due = same(2 * (n - 1), STATE);
        Arrays.fill(due, 0, n - 1, 4);
        check.sentence(11, "BAD; STATE: a SEND that can not come");
        range("deliver(..)", () -> withMessages(n), (x, a) -> x.deliver(a), 0, due, BAD);
        check.sentence(13, "BAD");
        for (int what = 0; what < 5; what++) {
            int asked = what;
            for (int i = 0; i < due.length; i++) {
                due[i] = new long[] {4, 1 + i % (n - 1), 0, i / (n - 1), i < n - 1 ? 1 : 0}[what];
            }
            range("message(.., " + what + ")", () -> withMessages(n), (x, a) -> x.message(a, asked), 0, due, BAD);
        }
    }

    private static void whats() {
        check.sentence(13, "0 what it is .. 4 whether it can come now. BAD");
        range("message(3, ..)", () -> withMessages(3), (x, a) -> x.message(3, a), 0, new long[] {4, 2, 0, 1, 0}, BAD);
        check.sentence(14, "0 its state .. 8 ASKS that were sent. BAD");
        range("told(1, ..)", () -> withMessages(3), (x, a) -> x.told(1, a), 0, new long[] {2, 0, 2, 0, 0, 0, 1, 0, 0}, BAD);
        check.sentence(22, "0 SITES .. 9 SAFE COMMITS. BAD");
        range("count(..)", () -> withMessages(3), (x, a) -> x.count(a), 0, new long[] {3, 2, 1, 2, 4, 2, 0, 2, 0, 0}, BAD);
        check.sentence(12, "n times (0 to 500)");
        long[] due = same(501, 8);
        for (int i = 0; i < 8; i++) {
            due[i] = i;
        }
        range("all(..)", () -> withMessages(3), (x, a) -> x.all(a), 0, due, BAD);
        check.sentence(3, "THINGS (12); FULL");
        for (int many = 0; many <= 12; many++) {
            check.due("thing() with " + many, withThings(2, many, false).thing(1, true), many < 12 ? many : FULL);
        }
        check.sentence(4, "TRANSACTIONS (150); FULL");
        for (int many : new int[] {0, 1, 148, 149, 150}) {
            check.due("begin() with " + many, withTransactions(2, many).begin(1), many < 150 ? many : FULL);
        }
    }
}
