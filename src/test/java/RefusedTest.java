import java.util.ArrayList;
import java.util.List;

/**
 * What is refused, and what only asks, changes nothing: each such call is made on a store of its own, and then all
 * that can be asked is compared with a store on which it was not made, at once and after more has been done on both.
 */
public final class RefusedTest {
    private static final int BAD = -1, STATE = -2, FULL = -3, NONE = -4;
    private static final int LOW = Integer.MIN_VALUE, HIGH = Integer.MAX_VALUE;
    private static final Check check = new Check();

    private interface Call {
        long on(FarStore x);
    }

    private interface Maker {
        FarStore make();
    }

    private record Refused(int promise, String name, Call call, long due) { }

    private static final List<Refused> list = new ArrayList<>();

    public static void main(String[] args) {
        setupCalls();
        changes();
        arrivals();
        questions();
        for (Refused r : list) {
            changesNothing(r, RefusedTest::busyStore);
        }
        check.hasNamed(2, 3, 4, 5, 6, 7, 8, 9, 10, 11, 12, 13, 14, 15, 16, 17, 18, 19, 20, 21, 22);
        list.clear();
        whenFull();
        for (Refused r : list) {
            changesNothing(r, RefusedTest::fullStore);
        }
        list.clear();
        whenEmpty();
        for (Refused r : list) {
            changesNothing(r, FarStore::new);
        }
        check.end();
    }

    private static void refuse(int promise, String name, long due, Call call) {
        list.add(new Refused(promise, name, call, due));
    }

    /**
     * Things 0 plain at 0, 1 plain at 1, 2 a set at 2, 3 plain at 2. Transactions: 0 and 1 committed at site 0 (the
     * SENDs of 1 can not come yet), 2 asking with locks at sites 0 and 1, 3 aborted, 4 committed with nothing written,
     * 5 open with something written, 6 open.
     */
    private static FarStore busyStore() {
        FarStore x = new FarStore();
        x.thing(0, false);
        x.thing(1, false);
        x.thing(2, true);
        x.thing(2, false);
        for (int t = 0; t < 2; t++) {
            x.begin(0);
            x.write(t, 0, 7 + t);
            x.add(t, 2, t, 3);
            x.commit(t);
        }
        x.begin(0);
        x.write(2, 0, 20);
        x.write(2, 1, 21);
        x.write(2, 3, 23);
        x.commit(2);
        x.deliver(4);
        x.begin(1);
        x.write(3, 1, 30);
        x.commit(3);
        x.begin(2);
        x.commit(4);
        x.begin(2);
        x.write(5, 3, 50);
        x.add(5, 2, 7, 51);
        x.begin(1);
        return x;
    }

    private static FarStore fullStore() {
        FarStore x = new FarStore();
        x.sites(4, 3);
        for (int i = 0; i < 12; i++) {
            x.thing(i % 4, i % 3 == 2);
        }
        for (int t = 0; t < 150; t++) {
            x.begin(t % 4);
        }
        return x;
    }

    private static void setupCalls() {
        refuse(2, "sites(2, 0)", STATE, x -> x.sites(2, 0));
        refuse(2, "sites(3, 2)", STATE, x -> x.sites(3, 2));
        refuse(2, "sites(4, 3)", STATE, x -> x.sites(4, 3));
        refuse(2, "sites(5, 0)", BAD, x -> x.sites(5, 0));
        refuse(2, "sites(3, 3)", BAD, x -> x.sites(3, 3));
        for (int site : new int[] {-1, 3, LOW, HIGH}) {
            refuse(3, "thing(" + site + ", true)", BAD, x -> x.thing(site, true));
            refuse(3, "thing(" + site + ", false)", BAD, x -> x.thing(site, false));
            refuse(4, "begin(" + site + ")", BAD, x -> x.begin(site));
        }
    }

    private static void changes() {
        for (int t = 0; t <= 4; t++) {
            int one = t;
            refuse(7, "write(" + t + ", 0, 99)", STATE, x -> x.write(one, 0, 99));
            refuse(7, "write(" + t + ", 3, 99)", STATE, x -> x.write(one, 3, 99));
            refuse(8, "add(" + t + ", 2, 0, 99)", STATE, x -> x.add(one, 2, 0, 99));
            refuse(9, "commit(" + t + ")", STATE, x -> x.commit(one));
            refuse(10, "abort(" + t + ")", STATE, x -> x.abort(one));
        }
        for (int t : new int[] {-1, 7, 150, LOW, HIGH}) {
            refuse(7, "write(" + t + ", 0, 99)", BAD, x -> x.write(t, 0, 99));
            refuse(8, "add(" + t + ", 2, 0, 99)", BAD, x -> x.add(t, 2, 0, 99));
            refuse(9, "commit(" + t + ")", BAD, x -> x.commit(t));
            refuse(10, "abort(" + t + ")", BAD, x -> x.abort(t));
        }
        for (int thing : new int[] {-1, 2, 4, 12, LOW, HIGH}) {
            refuse(7, "write(5, " + thing + ", 99)", BAD, x -> x.write(5, thing, 99));
            refuse(7, "write(6, " + thing + ", 99)", BAD, x -> x.write(6, thing, 99));
        }
        for (int thing : new int[] {-1, 0, 3, 4, 12, LOW, HIGH}) {
            refuse(8, "add(5, " + thing + ", 0, 99)", BAD, x -> x.add(5, thing, 0, 99));
        }
        for (int element : new int[] {-1, 8, LOW, HIGH}) {
            refuse(8, "add(5, 2, " + element + ", 99)", BAD, x -> x.add(5, 2, element, 99));
            refuse(8, "add(6, 2, " + element + ", 99)", BAD, x -> x.add(6, 2, element, 99));
        }
    }

    private static void arrivals() {
        refuse(11, "deliver(2), a SEND that can not come", STATE, x -> x.deliver(2));
        refuse(11, "deliver(3), a SEND that can not come", STATE, x -> x.deliver(3));
        for (int i : new int[] {-1, 6, LOW, HIGH}) {
            refuse(11, "deliver(" + i + ")", BAD, x -> x.deliver(i));
            refuse(13, "message(" + i + ", 0)", BAD, x -> x.message(i, 0));
        }
        for (int n : new int[] {-1, 501, LOW, HIGH}) {
            refuse(12, "all(" + n + ")", BAD, x -> x.all(n));
        }
        refuse(12, "all(0)", 0, x -> x.all(0));
        for (int what : new int[] {-1, 5, LOW, HIGH}) {
            refuse(13, "message(0, " + what + ")", BAD, x -> x.message(0, what));
        }
        refuse(13, "message(2, 4)", 0, x -> x.message(2, 4));
    }

    private static void questions() {
        refuse(5, "read(5, 3)", 50, x -> x.read(5, 3));
        refuse(5, "read(7, 3)", 0, x -> x.read(7, 3));
        refuse(5, "read(5, 2)", 0, x -> x.read(5, 2));
        refuse(5, "read(5, 4)", 0, x -> x.read(5, 4));
        refuse(6, "counted(5, 2, 7)", 51, x -> x.counted(5, 2, 7));
        refuse(6, "counted(5, 2, 8)", 0, x -> x.counted(5, 2, 8));
        refuse(6, "counted(5, 3, 0)", 0, x -> x.counted(5, 3, 0));
        refuse(6, "counted(-1, 2, 0)", 0, x -> x.counted(-1, 2, 0));
        refuse(14, "told(2, 8)", 2, x -> x.told(2, 8));
        refuse(14, "told(2, 9)", BAD, x -> x.told(2, 9));
        refuse(14, "told(7, 0)", BAD, x -> x.told(7, 0));
        refuse(15, "start(2, 0)", 2, x -> x.start(2, 0));
        refuse(15, "start(2, 3)", BAD, x -> x.start(2, 3));
        refuse(16, "had(0, 0)", 2, x -> x.had(0, 0));
        refuse(16, "had(3, 0)", BAD, x -> x.had(3, 0));
        refuse(17, "latest(0, 0)", 8, x -> x.latest(0, 0));
        refuse(17, "latest(0, 2)", 0, x -> x.latest(0, 2));
        refuse(18, "sum(0, 2, 1)", 3, x -> x.sum(0, 2, 1));
        refuse(18, "sum(0, 0, 1)", 0, x -> x.sum(0, 0, 1));
        refuse(19, "locked(1, 1)", 2, x -> x.locked(1, 1));
        refuse(19, "locked(2, 3)", NONE, x -> x.locked(2, 3));
        refuse(19, "locked(3, 3)", BAD, x -> x.locked(3, 3));
        refuse(20, "sees(2, 1)", 1, x -> x.sees(2, 1));
        refuse(20, "sees(1, 2)", NONE, x -> x.sees(1, 2));
        refuse(20, "sees(7, 2)", BAD, x -> x.sees(7, 2));
        refuse(21, "calm()", 0, x -> x.calm());
        refuse(22, "count(8)", 2, x -> x.count(8));
        refuse(22, "count(10)", BAD, x -> x.count(10));
    }

    private static void whenFull() {
        for (int home = 0; home < 4; home++) {
            int one = home;
            refuse(3, "thing(" + home + ", false) when full", FULL, x -> x.thing(one, false));
            refuse(3, "thing(" + home + ", true) when full", FULL, x -> x.thing(one, true));
            refuse(4, "begin(" + home + ") when full", FULL, x -> x.begin(one));
        }
        refuse(3, "thing(4, true) when full", BAD, x -> x.thing(4, true));
        refuse(4, "begin(4) when full", BAD, x -> x.begin(4));
        refuse(2, "sites(2, 1) when full", STATE, x -> x.sites(2, 1));
    }

    private static void whenEmpty() {
        int[][] wrong = {{1, 0}, {5, 0}, {2, 2}, {4, 4}, {2, -1}, {4, -1}, {LOW, 0}, {HIGH, 0}, {2, LOW}, {4, HIGH}};
        for (int[] w : wrong) {
            refuse(2, "sites(" + w[0] + ", " + w[1] + ") when empty", BAD, x -> x.sites(w[0], w[1]));
        }
        refuse(3, "thing(3, false) when empty", BAD, x -> x.thing(3, false));
        refuse(4, "begin(3) when empty", BAD, x -> x.begin(3));
        refuse(12, "all(500) when empty", 0, x -> x.all(500));
    }

    private static void changesNothing(Refused r, Maker maker) {
        check.sentence(r.promise, "what is refused changes nothing");
        FarStore x = maker.make();
        check.due(r.name, r.call.on(x), r.due);
        compare(r.name + ", at once", answers(x), answers(maker.make()));
        FarStore y = maker.make();
        r.call.on(y);
        FarStore z = maker.make();
        compare(r.name + ", what came of later calls", goOn(y), goOn(z));
        compare(r.name + ", after later calls", answers(y), answers(z));
    }

    private static void compare(String what, List<Long> got, List<Long> want) {
        check.due(what + ": how many answers", got.size(), want.size());
        for (int i = 0; i < Math.min(got.size(), want.size()); i++) {
            check.due(what + ": answer " + i, got.get(i), want.get(i));
        }
    }

    /** Calls that would show a place that was taken, a number that was used up, a lock or a message that was left. */
    private static List<Long> goOn(FarStore x) {
        List<Long> got = new ArrayList<>();
        got.add((long) x.thing(1, false));
        int t = x.begin(1);
        got.add((long) t);
        got.add((long) x.write(t, 1, 60));
        got.add((long) x.add(t, 2, 7, 61));
        got.add((long) x.write(5, 0, 62));
        got.add((long) x.all(3));
        got.add((long) x.commit(t));
        got.add((long) x.commit(5));
        got.add((long) x.all(500));
        got.add((long) x.commit(6));
        got.add((long) x.begin(0));
        return got;
    }

    /** All that can be asked of what there is; of very many transactions only the last, since an object has 512 calls. */
    private static List<Long> answers(FarStore x) {
        List<Long> got = new ArrayList<>();
        for (int what = 0; what < 10; what++) {
            got.add((long) x.count(what));
        }
        got.add((long) x.calm());
        int n = x.count(0), things = x.count(2), transactions = x.count(3), messages = x.count(4);
        for (int t = transactions > 20 ? transactions - 4 : 0; t < transactions; t++) {
            answersOf(x, t, n, things, got);
        }
        for (int s = 0; s < n; s++) {
            for (int of = 0; of < n; of++) {
                got.add((long) x.had(s, of));
            }
            for (int thing = 0; thing < things; thing++) {
                got.add(x.latest(s, thing));
                got.add(x.sum(s, thing, 7));
                got.add((long) x.locked(s, thing));
            }
        }
        for (int i = 0; i < messages; i++) {
            for (int what = 0; what < 5; what++) {
                got.add((long) x.message(i, what));
            }
        }
        return got;
    }

    private static void answersOf(FarStore x, int t, int n, int things, List<Long> got) {
        for (int what = 0; what < 9; what++) {
            got.add((long) x.told(t, what));
        }
        for (int s = 0; s < n; s++) {
            got.add((long) x.start(t, s));
        }
        for (int thing = 0; thing < Math.min(things, 5); thing++) {
            got.add(x.read(t, thing));
            got.add(x.counted(t, thing, 0));
            got.add(x.counted(t, thing, 7));
        }
        got.add((long) x.sees(t, 0));
    }
}
