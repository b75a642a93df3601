/** Promises 5 to 10: read, counted, write, add, commit, abort. */
public final class TransactionTest {
    private static final int BAD = -1, STATE = -2, NONE = -4;
    private static final int[] FAR = {-1, Integer.MIN_VALUE, Integer.MAX_VALUE};
    private static final Check check = new Check();

    public static void main(String[] args) {
        readOwnAndStart();
        readLatestInTheOrderHad();
        readWrong();
        counts();
        countsWrong();
        writes();
        adds();
        commitAtHome();
        commitOfNothing();
        commitOfSets();
        commitElsewhere();
        commitWithOwnThingNotFree();
        lockedIsNotFree();
        notOpen();
        aborts();
        check.end();
    }

    /** Site 0: things 0 plain at 0, 1 plain at 1, 2 a set at 2, 3 plain at 0. */
    private static FarStore store() {
        FarStore x = new FarStore();
        x.thing(0, false);
        x.thing(1, false);
        x.thing(2, true);
        x.thing(0, false);
        return x;
    }

    private static void put(FarStore x, int site, int thing, long v) {
        int t = x.begin(site);
        x.write(t, thing, v);
        x.commit(t);
    }

    private static void readOwnAndStart() {
        FarStore x = store();
        x.begin(0);
        check.due("0 at first", x.read(0, 0), 0);
        put(x, 0, 0, 5);
        check.due("not what came later", x.read(0, 0), 0);
        x.begin(0);
        check.due("what its START has", x.read(2, 0), 5);
        put(x, 0, 0, 6);
        check.due("still what its START has", x.read(2, 0), 5);
        x.write(2, 0, Long.MIN_VALUE);
        check.due("what it wrote", x.read(2, 0), Long.MIN_VALUE);
        x.write(2, 0, Long.MAX_VALUE);
        check.due("what it wrote last", x.read(2, 0), Long.MAX_VALUE);
        x.write(2, 0, 0);
        check.due("0, which it wrote", x.read(2, 0), 0);
        check.due("another thing", x.read(2, 3), 0);
        check.due("commit", x.commit(2), 3);
        check.due("read when aborted", x.read(2, 0), 0);
        x.begin(0);
        x.write(4, 3, 7);
        check.due("commit", x.commit(4), 2);
        put(x, 0, 0, 8);
        put(x, 0, 3, 9);
        check.due("its own, when committed", x.read(4, 3), 7);
        check.due("its START's, when committed", x.read(4, 0), 6);
        check.due("another site has none of it", x.read(x.begin(1), 0), 0);
    }

    private static void readLatestInTheOrderHad() {
        FarStore x = new FarStore();
        x.thing(0, false);
        put(x, 0, 0, 1);
        x.all(500);
        put(x, 1, 0, 2);
        check.due("ASK, YES", x.all(2), 2);
        check.due("SENDs, ACKs", x.all(500), 4);
        put(x, 0, 0, 3);
        check.due("site 0", x.read(x.begin(0), 0), 3);
        check.due("site 1: commit 1 of site 1 came after 1 of site 0", x.read(x.begin(1), 0), 2);
        check.due("site 2", x.read(x.begin(2), 0), 2);
        int t = x.begin(2);
        x.all(500);
        check.due("site 2 as it began", x.read(t, 0), 2);
        check.due("site 1", x.read(x.begin(1), 0), 3);
        check.due("site 2", x.read(x.begin(2), 0), 3);
    }

    private static void readWrong() {
        FarStore x = store();
        put(x, 0, 0, 5);
        x.begin(0);
        check.due("read", x.read(1, 0), 5);
        check.due("no such transaction", x.read(2, 0), 0);
        check.due("no such thing", x.read(1, 4), 0);
        x.add(1, 2, 0, 3);
        check.due("a set", x.read(1, 2), 0);
        for (int far : FAR) {
            check.due("read(far, 0)", x.read(far, 0), 0);
            check.due("read(1, far)", x.read(1, far), 0);
        }
    }

    private static void counts() {
        FarStore x = store();
        x.begin(0);
        for (int e = 0; e < 8; e++) {
            check.due("0 at first", x.counted(0, 2, e), 0);
            check.due("add", x.add(0, 2, e, e + 1), 1);
        }
        x.add(0, 2, 7, Integer.MAX_VALUE);
        x.add(0, 2, 7, Integer.MAX_VALUE);
        x.add(0, 2, 0, Integer.MIN_VALUE);
        check.due("element 7", x.counted(0, 2, 7), 2L * Integer.MAX_VALUE + 8);
        check.due("element 0", x.counted(0, 2, 0), 1L + Integer.MIN_VALUE);
        check.due("element 3", x.counted(0, 2, 3), 4);
        x.begin(0);
        x.commit(0);
        check.due("its own, once, when committed", x.counted(0, 2, 3), 4);
        check.due("not what came later", x.counted(1, 2, 3), 0);
        x.begin(0);
        x.add(2, 2, 3, 10);
        check.due("its own and its START's", x.counted(2, 2, 3), 14);
        check.due("its START's", x.counted(2, 2, 7), 2L * Integer.MAX_VALUE + 8);
        check.due("another site has none of it", x.counted(x.begin(1), 2, 3), 0);
        x.abort(2);
        check.due("when aborted", x.counted(2, 2, 3), 14);
        check.due("none of an aborted one", x.counted(x.begin(0), 2, 3), 4);
    }

    private static void countsWrong() {
        FarStore x = store();
        x.begin(0);
        x.add(0, 2, 0, 1);
        x.add(0, 2, 7, 1);
        x.write(0, 1, 9);
        check.due("element 8", x.counted(0, 2, 8), 0);
        check.due("a plain thing", x.counted(0, 1, 0), 0);
        check.due("no such thing", x.counted(0, 4, 0), 0);
        check.due("no such transaction", x.counted(1, 2, 0), 0);
        for (int far : FAR) {
            check.due("counted(far, 2, 0)", x.counted(far, 2, 0), 0);
            check.due("counted(0, far, 0)", x.counted(0, far, 0), 0);
            check.due("counted(0, 2, far)", x.counted(0, 2, far), 0);
        }
    }

    private static void writes() {
        FarStore x = store();
        x.begin(0);
        check.due("one", x.write(0, 0, 1), 1);
        check.due("the same again", x.write(0, 0, 0), 1);
        check.due("two", x.write(0, 1, 1), 2);
        check.due("a set", x.write(0, 2, 1), BAD);
        check.due("no such thing", x.write(0, 4, 1), BAD);
        check.due("no such transaction", x.write(1, 0, 1), BAD);
        for (int far : FAR) {
            check.due("write(far, 0, 1)", x.write(far, 0, 1), BAD);
            check.due("write(0, far, 1)", x.write(0, far, 1), BAD);
        }
        x.add(0, 2, 0, 1);
        check.due("sets do not count", x.write(0, 3, 1), 3);
        check.due("told(0, 6)", x.told(0, 6), 3);
        x.abort(0);
        check.due("not open", x.write(0, 0, 9), STATE);
        check.due("BAD comes ahead of STATE: a set", x.write(0, 2, 9), BAD);
        check.due("BAD comes ahead of STATE: no thing", x.write(0, 4, 9), BAD);
        check.due("nothing was changed", x.read(0, 0), 0);
    }

    private static void adds() {
        FarStore x = store();
        x.begin(0);
        check.due("add", x.add(0, 2, 0, 1), 1);
        check.due("add nothing", x.add(0, 2, 7, 0), 1);
        check.due("element 8", x.add(0, 2, 8, 1), BAD);
        check.due("a plain thing", x.add(0, 0, 0, 1), BAD);
        check.due("no such thing", x.add(0, 4, 0, 1), BAD);
        check.due("no such transaction", x.add(1, 2, 0, 1), BAD);
        for (int far : FAR) {
            check.due("add(far, 2, 0, 1)", x.add(far, 2, 0, 1), BAD);
            check.due("add(0, far, 0, 1)", x.add(0, far, 0, 1), BAD);
            check.due("add(0, 2, far, 1)", x.add(0, 2, far, 1), BAD);
        }
        x.commit(0);
        check.due("not open", x.add(0, 2, 0, 5), STATE);
        check.due("BAD comes ahead of STATE: element", x.add(0, 2, 8, 5), BAD);
        check.due("BAD comes ahead of STATE: plain", x.add(0, 0, 0, 5), BAD);
        check.due("nothing was changed", x.counted(0, 2, 0), 1);
        check.due("nor at the site", x.sum(0, 2, 0), 1);
    }

    private static void commitAtHome() {
        FarStore x = store();
        x.begin(0);
        x.begin(0);
        x.write(0, 0, 1);
        x.write(0, 3, 1);
        x.write(1, 3, 2);
        check.due("free", x.commit(0), 2);
        check.due("no locks", x.count(8), 0);
        check.due("SENDs", x.count(4), 2);
        check.due("to the lower number first", x.message(0, 1), 1);
        check.due("then to the higher", x.message(1, 1), 2);
        check.due("not free: a commit that is not in its START", x.commit(1), 3);
        check.due("no message of an aborted one", x.count(4), 2);
        check.due("its value is not there", x.latest(0, 3), 1);
        x.begin(0);
        x.write(2, 0, 7);
        check.due("free again for one that has it in its START", x.commit(2), 2);
        check.due("its number", x.told(2, 2), 2);
    }

    private static void commitOfNothing() {
        FarStore x = store();
        x.begin(2);
        check.due("nothing written", x.commit(0), 2);
        check.due("no COMMIT", x.told(0, 2), 0);
        check.due("no message", x.count(4), 0);
        check.due("none had", x.had(2, 2), 0);
        check.due("no COMMITS", x.count(7), 0);
    }

    private static void commitOfSets() {
        FarStore x = store();
        x.begin(0);
        x.begin(0);
        x.begin(1);
        for (int t = 0; t < 3; t++) {
            x.add(t, 2, 1, 1);
        }
        for (int t = 0; t < 3; t++) {
            check.due("sets never quarrel", x.commit(t), 2);
        }
        check.due("number", x.told(1, 2), 2);
        check.due("number", x.told(2, 2), 1);
        x.begin(1);
        x.add(3, 2, 0, 0);
        check.due("adding 0 is written too", x.commit(3), 2);
        check.due("with a COMMIT", x.told(3, 2), 2);
        check.due("SENDs", x.count(4), 8);
        x.all(500);
        check.due("the same everywhere", x.sum(2, 2, 1), 3);
        check.due("the same everywhere", x.sum(0, 2, 1), 3);
    }

    private static void commitElsewhere() {
        FarStore x = store();
        x.thing(2, false);
        x.begin(1);
        x.write(0, 4, 4);
        x.write(0, 1, 1);
        x.write(0, 0, 5);
        x.write(0, 3, 6);
        x.add(0, 2, 0, 9);
        check.due("commit", x.commit(0), 1);
        check.due("locked at its own site", x.locked(1, 1), 0);
        check.due("not yet locked elsewhere", x.locked(0, 0), NONE);
        check.due("one ASK a site", x.count(4), 2);
        check.due("by numbers", x.message(0, 1), 0);
        check.due("by numbers", x.message(1, 1), 2);
        check.due("ASK", x.deliver(0), 0);
        check.due("locked there", x.locked(0, 0), 0);
        check.due("locked there", x.locked(0, 3), 0);
        check.due("a home's locks alone", x.locked(0, 4), NONE);
        check.due("LOCKS", x.count(8), 3);
        check.due("ASK", x.deliver(0), 0);
        check.due("YES", x.deliver(0), 1);
        check.due("not all have said it", x.told(0, 0), 1);
        check.due("YES", x.deliver(0), 1);
        check.due("now all have", x.told(0, 0), 2);
        check.due("its own site's lock is no more", x.locked(1, 1), NONE);
        check.due("those of the others stay", x.count(8), 3);
        check.due("had", x.had(1, 1), 1);
        check.due("value", x.latest(1, 4), 4);
        check.due("SEND to 0", x.deliver(0), 4);
        check.due("site 0's locks are no more", x.count(8), 1);
        check.due("site 2's are", x.locked(2, 4), 0);
        x.all(500);
        check.due("no locks", x.count(8), 0);
        check.due("count", x.sum(2, 2, 0), 9);
    }

    private static void commitWithOwnThingNotFree() {
        FarStore x = store();
        x.begin(0);
        put(x, 0, 0, 1);
        x.write(0, 0, 2);
        x.write(0, 1, 2);
        x.write(0, 3, 2);
        check.due("aborted without asking", x.commit(0), 3);
        check.due("no ASK", x.told(0, 8), 0);
        check.due("no locks", x.count(8), 0);
        check.due("only the other one's SENDs", x.count(4), 2);
    }

    private static void lockedIsNotFree() {
        FarStore x = store();
        x.begin(0);
        x.write(0, 0, 1);
        x.write(0, 1, 1);
        check.due("asking", x.commit(0), 1);
        put(x, 0, 0, 2);
        check.due("a locked thing, at home", x.told(1, 0), 3);
        put(x, 0, 3, 2);
        check.due("another thing is free", x.told(2, 0), 2);
        x.begin(2);
        x.write(3, 0, 3);
        x.write(3, 3, 3);
        x.commit(3);
        check.due("its ASK", x.message(3, 3), 3);
        x.deliver(3);
        check.due("a NO", x.message(3, 0), 2);
        check.due("all or none is locked", x.locked(0, 3), NONE);
        check.due("the lock stays the first one's", x.locked(0, 0), 0);
    }

    private static void notOpen() {
        FarStore x = store();
        x.begin(0);
        x.write(0, 1, 1);
        check.due("asking", x.commit(0), 1);
        check.due("commit of an asking one", x.commit(0), STATE);
        check.due("abort of an asking one", x.abort(0), STATE);
        check.due("write of an asking one", x.write(0, 1, 2), STATE);
        check.due("add of an asking one", x.add(0, 2, 0, 2), STATE);
        check.due("one ASK", x.count(4), 1);
        x.all(500);
        check.due("commit of a committed one", x.commit(0), STATE);
        check.due("abort of a committed one", x.abort(0), STATE);
        check.due("it is committed", x.told(0, 0), 2);
        check.due("one COMMIT", x.count(7), 1);
        check.due("no such transaction", x.commit(1), BAD);
        check.due("no such transaction", x.abort(1), BAD);
        for (int far : FAR) {
            check.due("commit(far)", x.commit(far), BAD);
            check.due("abort(far)", x.abort(far), BAD);
        }
    }

    private static void aborts() {
        FarStore x = store();
        x.begin(0);
        x.write(0, 0, 1);
        x.write(0, 1, 1);
        check.due("abort", x.abort(0), 1);
        check.due("its state", x.told(0, 0), 3);
        check.due("again", x.abort(0), STATE);
        check.due("commit", x.commit(0), STATE);
        check.due("no message", x.count(4), 0);
        check.due("ABORTED ones", x.count(6), 1);
        check.due("its value is not there", x.latest(0, 0), 0);
        check.due("no COMMIT", x.told(0, 2), 0);
    }
}
