/** The boundary cases that the document's sentences name beside the ranges of numbers, sentence by sentence. */
public final class EdgeTest {
    private static final int BAD = -1, STATE = -2, NONE = -4;
    private static final int OPEN = 0, ASKING = 1, COMMITTED = 2, ABORTED = 3;
    private static final int ASK = 0, YES = 1, NO = 2, DROP = 3, SEND = 4, ACK = 5;
    private static final long[] VALUES = {Long.MIN_VALUE, Long.MIN_VALUE + 1, Integer.MIN_VALUE - 1L, -4, -3, -2, -1, 0, 1,
        1L << 31, 1L << 32, 1L << 62, Long.MAX_VALUE - 1, Long.MAX_VALUE};
    private static final Check check = new Check();

    public static void main(String[] args) {
        lastSitesCallHolds();
        startAtItsNumber();
        latestInTheOrderHad();
        readsInAnyState();
        valuesAtTheEndsOfLong();
        zeroIsWritten();
        countsBeyondInt();
        countsThatCancel();
        kindsOfThings();
        commitWithNothing();
        addedNothing();
        freeAtItsStart();
        oneNotFreeOfMany();
        homesElsewhereAlone();
        abortLeavesNothing();
        yesAndNo();
        twoNos();
        dropAndAsk();
        dropIsOfOneTransaction();
        sendsAhead();
        sendsOfItsStart();
        sendsThatSawNothing();
        messagesAsSent();
        allCountsWhatComes();
        for (int n = 2; n <= 4; n++) {
            for (int f = 0; f < n; f++) {
                safeAtF(n, f);
            }
        }
        neitherSafeNorEverywhere();
        latestAtEachSite();
        seesAtItsNumber();
        calmAtTheLast();
        check.hasNamed(2, 3, 5, 6, 7, 8, 9, 10, 11, 12, 13, 14, 15, 16, 17, 18, 19, 20, 21, 22);
        check.end();
    }

    /** Plain things, one at home at each site: thing s at site s; then a set, thing n. */
    private static FarStore store(int n, int f) {
        FarStore x = new FarStore();
        x.sites(n, f);
        for (int s = 0; s < n; s++) {
            x.thing(s, false);
        }
        x.thing(n - 1, true);
        return x;
    }

    private static int put(FarStore x, int site, int thing, long v) {
        int t = x.begin(site);
        x.write(t, thing, v);
        x.commit(t);
        return t;
    }

    private static int add(FarStore x, int site, int thing, int element, int n) {
        int t = x.begin(site);
        x.add(t, thing, element, n);
        x.commit(t);
        return t;
    }

    private static void dueMessage(FarStore x, int i, int... due) {
        for (int what = 0; what < due.length; what++) {
            check.due("message(" + i + ", " + what + ")", x.message(i, what), due[what]);
        }
    }

    private static void lastSitesCallHolds() {
        check.sentence(2, "n SITES and F: 1");
        FarStore x = new FarStore();
        check.due("sites(4, 3)", x.sites(4, 3), 1);
        check.due("sites(2, 1)", x.sites(2, 1), 1);
        check.due("site 2 is no more", x.had(2, 0), BAD);
        check.due("F", x.count(1), 1);
        check.due("F 2 was right with n 4", x.sites(2, 2), BAD);
        check.due("n", x.count(0), 2);
        check.due("sites(4, 0)", x.sites(4, 0), 1);
        check.due("site 3 is there again", x.had(3, 3), 0);
        check.due("F", x.count(1), 0);
        check.due("the same again", x.sites(4, 0), 1);
    }

    private static void startAtItsNumber() {
        FarStore x = store(3, 1);
        put(x, 0, 0, 11);
        put(x, 0, 0, 12);
        int t = x.begin(0);
        put(x, 0, 0, 13);
        check.sentence(5, "of a SITE with a number not above it");
        check.due("START", x.start(t, 0), 2);
        check.due("the COMMIT with its number, not the next", x.read(t, 0), 12);
        check.due("the first one", x.read(1, 0), 12);
        check.due("what the first one's START has", x.start(0, 0), 0);
        int u = x.begin(1);
        x.all(500);
        check.sentence(15, "what its SITE had HAD of each when it began");
        check.due("START, before any came", x.start(u, 0), 0);
        check.due("it stays", x.read(u, 0), 0);
        check.due("START, after all came", x.start(x.begin(1), 0), 3);
        check.sentence(6, "all such COMMITS");
        FarStore y = store(3, 1);
        for (int i = 0; i < 3; i++) {
            add(y, 0, 3, 0, 1 << i);
            y.begin(0);
        }
        for (int i = 0; i < 3; i++) {
            check.due("after " + (i + 1), y.counted(2 * i + 1, 3, 0), (2 << i) - 1);
            check.due("the one that added", y.counted(2 * i, 3, 0), (2 << i) - 1);
        }
    }

    /** Site 0 commits three times, then site 1 once: the latest has a number below that of the one before it. */
    private static void latestInTheOrderHad() {
        FarStore x = store(3, 1);
        for (int i = 1; i <= 3; i++) {
            put(x, 0, 0, i);
        }
        x.all(500);
        int t = x.begin(2);
        x.begin(1);
        x.write(4, 0, 4);
        x.commit(4);
        x.all(500);
        check.sentence(5, "in the order in which they came to be had there");
        check.due("numbers", x.told(2, 2), 3);
        check.due("numbers", x.told(4, 2), 1);
        for (int s = 0; s < 3; s++) {
            check.due("read at SITE " + s, x.read(x.begin(s), 0), 4);
        }
        check.due("one that began before it came", x.read(t, 0), 3);
        check.sentence(17, "What a TRANSACTION that began at a SITE now would READ");
        for (int s = 0; s < 3; s++) {
            check.due("latest(" + s + ", 0)", x.latest(s, 0), 4);
        }
    }

    private static void readsInAnyState() {
        for (int state = OPEN; state <= ABORTED; state++) {
            FarStore x = store(3, 1);
            put(x, 0, 0, 5);
            add(x, 0, 3, 4, 50);
            int t = x.begin(0);
            x.write(t, 1, 6);
            x.add(t, 3, 4, 60);
            put(x, 0, 0, 7);
            add(x, 0, 3, 4, 70);
            bring(x, t, state);
            check.sentence(5, "in any state, as it did when it was OPEN");
            check.due("its state", x.told(t, 0), state);
            check.due("its START's, state " + state, x.read(t, 0), 5);
            check.due("its own, state " + state, x.read(t, 1), 6);
            check.due("none's, state " + state, x.read(t, 2), 0);
            check.sentence(6, "The COUNT of an ELEMENT that it READS");
            check.due("both, state " + state, x.counted(t, 3, 4), 110);
            check.due("none, state " + state, x.counted(t, 3, 5), 0);
        }
    }

    private static void bring(FarStore x, int t, int state) {
        if (state == ABORTED) {
            x.abort(t);
        } else if (state != OPEN) {
            x.commit(t);
        }
        if (state == COMMITTED) {
            x.all(500);
        }
    }

    private static void valuesAtTheEndsOfLong() {
        for (long v : VALUES) {
            FarStore x = store(2, 1);
            x.begin(0);
            check.sentence(7, "how many PLAIN THINGS it wrote");
            check.due("write(0, 0, " + v + ")", x.write(0, 0, v), 1);
            check.sentence(5, "what it wrote itself last");
            check.due("its own", x.read(0, 0), v);
            x.commit(0);
            check.due("its own, COMMITTED", x.read(0, 0), v);
            check.sentence(17, "What a TRANSACTION that began at a SITE now would READ");
            check.due("at its SITE", x.latest(0, 0), v);
            check.due("not at the other one", x.latest(1, 0), 0);
            x.all(500);
            check.due("at the other one", x.latest(1, 0), v);
            check.sentence(5, "the VALUE of the latest COMMIT");
            check.due("its START's", x.read(x.begin(1), 0), v);
        }
    }

    private static void zeroIsWritten() {
        FarStore x = store(2, 1);
        put(x, 0, 0, 9);
        x.begin(0);
        x.write(1, 0, 0);
        check.sentence(5, "what it wrote itself last; else the VALUE");
        check.due("0, not its START's", x.read(1, 0), 0);
        x.commit(1);
        check.sentence(17, "the VALUE of the latest COMMIT with it");
        check.due("0, not the one before", x.latest(0, 0), 0);
        put(x, 0, 0, 9);
        put(x, 0, 0, 9);
        check.sentence(9, "its COMMIT gets the next number");
        check.due("the same VALUE is a COMMIT too", x.told(3, 2), 4);
        x.begin(0);
        x.write(4, 0, 1);
        x.write(4, 0, 9);
        check.sentence(7, "how many PLAIN THINGS it wrote");
        check.due("twice the same THING", x.told(4, 6), 1);
        check.due("what it wrote last", x.read(4, 0), 9);
        check.due("another one", x.write(4, 1, 0), 2);
    }

    private static void countsBeyondInt() {
        for (int n : new int[] {Integer.MIN_VALUE, Integer.MAX_VALUE}) {
            FarStore x = store(2, 1);
            x.begin(0);
            x.begin(1);
            for (int i = 0; i < 200; i++) {
                x.add(0, 2, 7, n);
                x.add(1, 2, 7, n);
            }
            check.sentence(8, "It adds to an ELEMENT of a SET: 1");
            check.due("add once more", x.add(0, 2, 7, n), 1);
            check.sentence(6, "each a COUNT, a long");
            check.due("its own", x.counted(0, 2, 7), 201L * n);
            x.commit(0);
            x.commit(1);
            check.sentence(18, "each a COUNT, a long");
            check.due("at SITE 0", x.sum(0, 2, 7), 201L * n);
            check.due("at SITE 1", x.sum(1, 2, 7), 200L * n);
            x.all(500);
            check.due("the same everywhere, SITE 0", x.sum(0, 2, 7), 401L * n);
            check.due("the same everywhere, SITE 1", x.sum(1, 2, 7), 401L * n);
            check.due("another ELEMENT", x.sum(1, 2, 6), 0);
            int t = x.begin(1);
            x.add(t, 2, 7, n);
            check.due("its own and its START's", x.counted(t, 2, 7), 402L * n);
        }
    }

    private static void countsThatCancel() {
        FarStore x = store(2, 1);
        x.begin(0);
        x.add(0, 2, 0, Integer.MAX_VALUE);
        x.add(0, 2, 0, Integer.MIN_VALUE);
        check.sentence(6, "the sum of what it added itself");
        check.due("both ends of int", x.counted(0, 2, 0), -1);
        x.add(0, 2, 0, 1);
        check.due("0 again", x.counted(0, 2, 0), 0);
        check.sentence(9, "Without any that is PLAIN: COMMITTED");
        check.due("commit", x.commit(0), COMMITTED);
        check.due("it has added, so there is a COMMIT", x.told(0, 2), 1);
        add(x, 1, 2, 0, -5);
        check.sentence(18, "Of an ELEMENT of a SET likewise");
        check.due("below 0", x.sum(1, 2, 0), -5);
    }

    private static void kindsOfThings() {
        FarStore x = store(2, 1);
        x.begin(0);
        x.write(0, 0, 3);
        x.add(0, 2, 0, 4);
        check.sentence(7, "BAD: also a SET");
        check.due("write", x.write(0, 2, 5), BAD);
        check.due("what it wrote", x.told(0, 6), 1);
        check.sentence(8, "BAD: also a PLAIN one");
        check.due("add", x.add(0, 0, 0, 5), BAD);
        check.sentence(5, "0 also: there is none such");
        check.due("read of a SET", x.read(0, 2), 0);
        check.sentence(6, "0 also: there is none such");
        check.due("counted of a PLAIN one", x.counted(0, 0, 0), 0);
        check.due("its commit", x.commit(0), COMMITTED);
        check.due("read of a SET, COMMITTED", x.read(0, 2), 0);
        check.due("counted of a PLAIN one, COMMITTED", x.counted(0, 0, 0), 0);
        check.sentence(17, "0 also: there is none such");
        check.due("latest of a SET", x.latest(0, 2), 0);
        check.sentence(18, "Of an ELEMENT of a SET likewise");
        check.due("sum of a PLAIN one", x.sum(0, 0, 0), 0);
        check.due("sum of a SET", x.sum(0, 2, 0), 4);
    }

    private static void commitWithNothing() {
        FarStore x = store(4, 0);
        x.begin(3);
        check.sentence(9, "without anything written, too: with no COMMIT");
        check.due("commit", x.commit(0), COMMITTED);
        check.due("the number of its COMMIT", x.told(0, 2), 0);
        check.due("messages", x.count(4), 0);
        check.due("COMMITS", x.count(7), 0);
        check.due("COMMITTED ones", x.count(5), 1);
        check.due("of its own all: none", x.had(3, 3), 0);
        add(x, 3, 4, 0, 1);
        check.due("the next number is 1 still", x.told(1, 2), 1);
        check.sentence(14, "0 without a COMMIT");
        check.due("SAFE, F 0", x.told(0, 4), 0);
        check.due("EVERYWHERE", x.told(0, 5), 0);
        check.sentence(22, "9 SAFE COMMITS");
        check.due("the other one alone", x.count(9), 1);
    }

    private static void addedNothing() {
        FarStore x = store(2, 1);
        x.begin(0);
        check.sentence(8, "It adds to an ELEMENT of a SET: 1");
        check.due("add of 0", x.add(0, 2, 0, 0), 1);
        check.due("counted", x.counted(0, 2, 0), 0);
        check.sentence(9, "Without any that is PLAIN: COMMITTED");
        check.due("commit", x.commit(0), COMMITTED);
        check.due("the number of its COMMIT", x.told(0, 2), 1);
        check.due("SENDS", x.count(4), 1);
    }

    private static void freeAtItsStart() {
        check.sentence(9, "all COMMITS with it that this SITE has HAD are in its START");
        FarStore x = store(2, 1);
        x.thing(0, false);
        put(x, 0, 0, 1);
        x.begin(0);
        x.begin(0);
        x.begin(0);
        x.write(1, 0, 2);
        x.write(2, 0, 3);
        x.write(3, 3, 4);
        check.due("the last COMMIT is in its START", x.commit(1), COMMITTED);
        check.due("the last but one is, the last is not", x.commit(2), ABORTED);
        check.due("COMMITS without it do not matter", x.commit(3), COMMITTED);
        check.due("an ABORTED one's writing is none", put(x, 0, 0, 5), 4);
        check.due("its state", x.told(4, 0), COMMITTED);
        FarStore y = store(2, 1);
        y.begin(1);
        put(y, 0, 0, 1);
        y.write(0, 0, 2);
        check.due("asking the HOME", y.commit(0), ASKING);
        y.deliver(1);
        check.due("the HOME's COMMIT is not in its START", y.message(1, 0), NO);
        FarStore z = store(2, 1);
        put(z, 0, 0, 1);
        z.all(500);
        z.begin(1);
        z.write(1, 0, 2);
        check.due("asking the HOME", z.commit(1), ASKING);
        z.deliver(0);
        check.due("the HOME's COMMIT is in its START", z.message(0, 0), YES);
    }

    private static void oneNotFreeOfMany() {
        for (int bad = 0; bad < 3; bad++) {
            FarStore x = new FarStore();
            for (int i = 0; i < 3; i++) {
                x.thing(0, false);
            }
            x.thing(1, false);
            x.begin(0);
            x.begin(2);
            put(x, 0, bad, 5);
            for (int i = 0; i < 4; i++) {
                x.write(0, i, 6);
                x.write(1, i, 7);
            }
            check.sentence(9, "LOCKED by it there, if all these are FREE, else it is ABORTED");
            check.due("commit", x.commit(0), ABORTED);
            check.due("LOCKS", x.count(8), 0);
            check.due("ASKS", x.told(0, 8), 0);
            check.due("messages", x.count(4), 2);
            check.due("commit of the one that asks", x.commit(1), ASKING);
            check.sentence(11, "if all its PLAIN THINGS with that HOME are FREE there, .. else a NO");
            check.due("ASK", x.deliver(2), ASK);
            check.due("LOCKS", x.count(8), 0);
            check.due("ASK to the other", x.deliver(2), ASK);
            dueMessage(x, 2, NO, 2, 0, 1, 1);
            dueMessage(x, 3, YES, 2, 1, 1, 1);
            check.due("LOCKS", x.count(8), 1);
        }
    }

    private static void homesElsewhereAlone() {
        FarStore x = store(4, 3);
        x.begin(1);
        x.write(0, 3, 1);
        x.write(0, 0, 1);
        check.sentence(9, "an ASK is sent to each other SITE that is a HOME of some, by numbers");
        check.due("commit", x.commit(0), ASKING);
        check.due("LOCKS", x.count(8), 0);
        check.due("ASKS", x.told(0, 8), 2);
        check.due("messages", x.count(4), 2);
        dueMessage(x, 0, ASK, 0, 1, 0, 1);
        dueMessage(x, 1, ASK, 3, 1, 0, 1);
        x.all(4);
        check.sentence(9, "a SEND of it goes to each other SITE, by numbers");
        check.due("its state", x.told(0, 0), COMMITTED);
        dueMessage(x, 0, SEND, 0, 1, 0, 1);
        dueMessage(x, 1, SEND, 2, 1, 0, 1);
        dueMessage(x, 2, SEND, 3, 1, 0, 1);
        check.sentence(11, "LOCKS of this TRANSACTION there are no more");
        check.due("LOCKS", x.count(8), 2);
        x.deliver(1);
        check.due("SITE 2 had none", x.count(8), 2);
        x.deliver(1);
        check.due("SITE 3's", x.locked(3, 3), NONE);
        check.due("SITE 0's", x.locked(0, 0), 0);
        x.deliver(0);
        check.due("none", x.count(8), 0);
        x.all(500);
        check.sentence(14, "3 ACKS that came .. 7 YES that came, 8 ASKS that were sent");
        check.due("ACKS", x.told(0, 3), 3);
        check.due("YES", x.told(0, 7), 2);
        check.due("ASKS", x.told(0, 8), 2);
    }

    private static void abortLeavesNothing() {
        FarStore x = store(3, 1);
        x.begin(0);
        check.sentence(10, "It is ABORTED: 1");
        check.due("with nothing written", x.abort(0), 1);
        x.begin(0);
        x.write(1, 0, 5);
        x.write(1, 1, 5);
        x.add(1, 3, 0, 5);
        check.due("with something written", x.abort(1), 1);
        check.due("ABORTED ones", x.count(6), 2);
        check.due("messages", x.count(4), 0);
        check.due("LOCKS", x.count(8), 0);
        check.due("COMMITS", x.count(7), 0);
        check.due("latest", x.latest(0, 0), 0);
        check.due("sum", x.sum(0, 3, 0), 0);
        check.due("the next one is FREE to write", x.told(put(x, 0, 0, 6), 0), COMMITTED);
        check.sentence(14, "6 PLAIN THINGS that it wrote");
        check.due("told(1, 6)", x.told(1, 6), 2);
    }

    /** Transaction 0 at site 0 asks sites 1, 2 and 3; one commit at site `no` is not in its START. */
    private static FarStore asking(int no) {
        FarStore x = store(4, 3);
        x.begin(0);
        put(x, no, no, 9);
        for (int i = 0; i < 4; i++) {
            x.write(0, i, i);
        }
        x.commit(0);
        return x;
    }

    private static void yesAndNo() {
        for (int no = 1; no <= 3; no++) {
            FarStore x = asking(no);
            check.sentence(11, "with a NO it is ABORTED (if it is not yet)");
            check.due("SENDS and ASKS", x.count(4), 6);
            for (int i = 0; i < 3; i++) {
                check.due("ASK", x.deliver(3), ASK);
            }
            check.due("LOCKS, its own SITE's too", x.count(8), 3);
            for (int s = 1; s <= 3; s++) {
                check.due("its state before", x.told(0, 0), s > no ? ABORTED : ASKING);
                check.due("message", x.deliver(3), s == no ? NO : YES);
                check.due("its state", x.told(0, 0), s >= no ? ABORTED : ASKING);
                check.due("its own SITE's LOCK", x.locked(0, 0), s >= no ? NONE : 0);
            }
            check.sentence(14, "7 YES that came");
            check.due("told(0, 7)", x.told(0, 7), 2);
            check.sentence(11, "a DROP is sent to each SITE that was asked, by numbers");
            for (int s = 1; s <= 3; s++) {
                dueMessage(x, 2 + s, DROP, s, 0, 0, 1);
            }
            check.due("LOCKS until the DROPS come", x.count(8), 2);
            x.all(500);
            check.due("LOCKS after them", x.count(8), 0);
            check.due("its COMMIT", x.told(0, 2), 0);
        }
    }

    private static void twoNos() {
        FarStore x = asking(1);
        put(x, 2, 2, 9);
        put(x, 3, 3, 9);
        for (int i = 0; i < 3; i++) {
            check.due("ASK", x.deliver(3), ASK);
        }
        check.sentence(11, "with a NO it is ABORTED (if it is not yet)");
        check.due("SENDS and NOS", x.count(4), 12);
        check.due("NO", x.deliver(11), NO);
        check.due("DROPS", x.count(4), 14);
        check.due("NO", x.deliver(10), NO);
        check.due("no more DROPS", x.count(4), 13);
        check.due("NO", x.deliver(9), NO);
        check.due("no more DROPS", x.count(4), 12);
        check.due("ABORTED ones", x.count(6), 1);
        check.due("YES that came", x.told(0, 7), 0);
        check.due("ASKS that were sent", x.told(0, 8), 3);
    }

    private static void dropAndAsk() {
        FarStore x = asking(1);
        x.deliver(3);
        check.due("NO", x.deliver(5), NO);
        check.sentence(11, "if the ASK has not come yet, this does nothing when it comes");
        dueMessage(x, 3, ASK, 2, 0, 0, 1);
        dueMessage(x, 4, ASK, 3, 0, 0, 1);
        dueMessage(x, 7, DROP, 3, 0, 0, 1);
        check.due("DROP to 3", x.deliver(7), DROP);
        check.due("ASK to 3", x.deliver(4), ASK);
        check.due("it does nothing: LOCKS", x.count(8), 0);
        check.due("it does nothing: messages", x.count(4), 6);
        check.due("ASK to 2, whose DROP has not come", x.deliver(3), ASK);
        check.due("LOCKS", x.locked(2, 2), 0);
        dueMessage(x, 5, YES, 0, 2, 0, 1);
        check.sentence(11, "DROP: its LOCKS there are no more");
        check.due("DROP to 1, which LOCKED nothing", x.deliver(3), DROP);
        check.due("LOCKS", x.count(8), 1);
        check.due("DROP to 2", x.deliver(3), DROP);
        check.due("LOCKS", x.count(8), 0);
        check.due("YES", x.deliver(3), YES);
        check.due("it stays ABORTED", x.told(0, 0), ABORTED);
        check.due("YES that came", x.told(0, 7), 1);
    }

    private static void dropIsOfOneTransaction() {
        FarStore x = asking(1);
        x.deliver(3);
        x.deliver(5);
        x.begin(0);
        x.write(2, 2, 5);
        x.write(2, 3, 5);
        x.commit(2);
        int last = x.count(4) - 1;
        check.sentence(11, "DROP: its LOCKS there are no more");
        check.due("another one's ASK to 3", x.deliver(last), ASK);
        check.due("another one's LOCK", x.locked(3, 3), 2);
        check.due("DROP to 3", x.deliver(7), DROP);
        check.due("another one's LOCK stays", x.locked(3, 3), 2);
        check.due("DROP to 2", x.deliver(6), DROP);
        check.sentence(11, "this does nothing when it comes");
        check.due("another one's ASK to 2", x.deliver(6), ASK);
        check.due("another one's LOCK", x.locked(2, 2), 2);
        check.due("the first one's ASK to 2", x.deliver(3), ASK);
        check.due("the LOCK stays another one's", x.locked(2, 2), 2);
    }

    private static void sendsAhead() {
        FarStore x = store(3, 1);
        for (int i = 0; i < 3; i++) {
            x.begin(0);
            x.add(i, 3, 0, 1);
        }
        for (int i = 0; i < 3; i++) {
            x.commit(i);
        }
        check.sentence(11, "SEND can come, if that SITE has HAD all COMMITS of its SITE ahead of it");
        int[] can = {1, 1, 0, 0, 0, 0};
        for (int i = 0; i < 6; i++) {
            dueMessage(x, i, SEND, 1 + i % 2, 0, i / 2, can[i]);
            if (can[i] == 0) {
                check.due("deliver(" + i + ")", x.deliver(i), STATE);
            }
        }
        check.due("the first to 1", x.deliver(0), SEND);
        int[] then = {1, 1, 0, 0, 0, 1};
        for (int i = 0; i < 6; i++) {
            check.due("then message(" + i + ", 4)", x.message(i, 4), then[i]);
        }
        check.due("the third to 1", x.deliver(3), STATE);
        check.due("the second to 1", x.deliver(1), SEND);
        check.due("the third to 1", x.deliver(2), SEND);
        check.sentence(16, "so many, the first ones");
        check.due("had(1, 0)", x.had(1, 0), 3);
        check.due("had(2, 0)", x.had(2, 0), 0);
    }

    /** A commit of site 3 that saw one commit of site 0 and one of site 1 goes to site 2, which has neither. */
    private static void sendsOfItsStart() {
        for (int first = 0; first < 2; first++) {
            FarStore x = store(4, 3);
            add(x, 0, 4, 0, 1);
            add(x, 1, 4, 0, 10);
            check.due("SEND of 0 to 3", x.deliver(2), SEND);
            check.due("SEND of 1 to 3", x.deliver(4), SEND);
            add(x, 3, 4, 0, 100);
            check.sentence(11, "and all that are in its START");
            dueMessage(x, 6, SEND, 0, 3, 2, 0);
            dueMessage(x, 7, SEND, 1, 3, 2, 0);
            dueMessage(x, 8, SEND, 2, 3, 2, 0);
            check.due("with neither", x.deliver(8), STATE);
            dueMessage(x, 1, SEND, 2, 0, 0, 1);
            dueMessage(x, 3, SEND, 2, 1, 1, 1);
            check.due("one of the two", x.deliver(first == 0 ? 1 : 3), SEND);
            check.due("with one", x.deliver(7), STATE);
            check.due("message(7, 4)", x.message(7, 4), 0);
            check.due("the other one", x.deliver(first == 0 ? 2 : 1), SEND);
            check.due("message(6, 4)", x.message(6, 4), 1);
            check.due("with both", x.deliver(6), SEND);
            check.sentence(18, "Of an ELEMENT of a SET likewise");
            check.due("sum(2, 4, 0)", x.sum(2, 4, 0), 111);
            check.due("sum(0, 4, 0)", x.sum(0, 4, 0), 1);
            check.due("sum(1, 4, 0)", x.sum(1, 4, 0), 10);
        }
    }

    private static void sendsThatSawNothing() {
        FarStore x = store(3, 2);
        x.begin(1);
        add(x, 0, 3, 0, 1);
        check.due("SEND of 0 to 1", x.deliver(0), SEND);
        x.add(0, 3, 0, 10);
        x.commit(0);
        check.sentence(11, "and all that are in its START");
        dueMessage(x, 3, SEND, 2, 1, 0, 1);
        check.due("its SITE had more when it was COMMITTED, its START has not", x.deliver(3), SEND);
        check.due("had(2, 1)", x.had(2, 1), 1);
        check.due("had(2, 0)", x.had(2, 0), 0);
        check.sentence(18, "Of an ELEMENT of a SET likewise");
        check.due("sum(2, 3, 0)", x.sum(2, 3, 0), 10);
        check.due("sum(1, 3, 0)", x.sum(1, 3, 0), 11);
    }

    private static void messagesAsSent() {
        FarStore x = store(2, 1);
        for (int t = 0; t < 3; t++) {
            x.begin(1);
            x.add(t, 2, 0, 1);
            x.commit(t);
        }
        check.sentence(13, "in the order in which they were sent");
        x.begin(0);
        x.write(3, 1, 5);
        x.commit(3);
        dueMessage(x, 3, ASK, 1, 0, 3, 1);
        check.due("the last comes first", x.deliver(3), ASK);
        dueMessage(x, 3, YES, 0, 1, 3, 1);
        check.due("the first", x.deliver(0), SEND);
        dueMessage(x, 0, SEND, 0, 1, 1, 1);
        dueMessage(x, 1, SEND, 0, 1, 2, 0);
        dueMessage(x, 2, YES, 0, 1, 3, 1);
        dueMessage(x, 3, ACK, 1, 0, 0, 1);
        check.due("no message 4", x.message(4, 0), BAD);
        check.due("one in the middle", x.deliver(2), YES);
        dueMessage(x, 2, ACK, 1, 0, 0, 1);
        dueMessage(x, 3, SEND, 1, 0, 3, 1);
        check.sentence(22, "4 messages");
        check.due("count(4)", x.count(4), 4);
    }

    private static void allCountsWhatComes() {
        FarStore x = store(2, 1);
        add(x, 0, 2, 0, 1);
        add(x, 0, 2, 0, 1);
        check.sentence(12, "n times (0 to 500) the first message that can come: how many came");
        check.due("all(0)", x.all(0), 0);
        check.due("none came", x.had(1, 0), 0);
        check.due("all(1)", x.all(1), 1);
        check.due("one came", x.had(1, 0), 1);
        check.due("all(2): the second SEND, and an ACK", x.all(2), 2);
        check.due("the first one's ACK", x.told(0, 3), 1);
        check.due("the second one's is under way", x.told(1, 3), 0);
        check.due("all(2), one left", x.all(2), 1);
        check.due("all(1), none left", x.all(1), 0);
        FarStore y = store(2, 1);
        y.begin(0);
        y.write(0, 1, 5);
        y.commit(0);
        check.due("what is sent while it goes on comes too: ASK, YES, SEND, ACK", y.all(500), 4);
        check.due("EVERYWHERE", y.told(0, 5), 1);
    }

    private static void safeAtF(int n, int f) {
        FarStore x = store(n, f);
        put(x, 0, 0, 5);
        check.sentence(14, "SAFE, when F SITES' ACKS have come (F 0: at once)");
        check.due("at once, n " + n + ", F " + f, x.told(0, 4), f == 0 ? 1 : 0);
        x.all(n - 1);
        for (int acks = 0; acks <= n - 1; acks++) {
            String when = "n " + n + ", F " + f + ", ACKS " + acks;
            check.sentence(14, "SAFE, when F SITES' ACKS have come (F 0: at once)");
            check.due("ACKS that came, " + when, x.told(0, 3), acks);
            check.due("SAFE, " + when, x.told(0, 4), acks < f ? 0 : 1);
            check.sentence(14, "EVERYWHERE, when all have");
            check.due("EVERYWHERE, " + when, x.told(0, 5), acks < n - 1 ? 0 : 1);
            check.sentence(22, "9 SAFE COMMITS");
            check.due("count(9), " + when, x.count(9), acks < f ? 0 : 1);
            check.due("all(1)", x.all(1), acks < n - 1 ? 1 : 0);
        }
    }

    private static void neitherSafeNorEverywhere() {
        FarStore x = store(2, 0);
        x.begin(0);
        x.begin(0);
        x.write(1, 1, 5);
        x.commit(1);
        x.begin(0);
        x.write(2, 0, 5);
        x.abort(2);
        check.sentence(14, "0 without a COMMIT");
        for (int t = 0; t < 3; t++) {
            for (int what = 2; what <= 5; what++) {
                check.due("told(" + t + ", " + what + ")", x.told(t, what), 0);
            }
        }
        check.sentence(22, "9 SAFE COMMITS");
        check.due("count(9)", x.count(9), 0);
        check.due("ASK and YES", x.all(2), 2);
        check.due("one, F 0", x.count(9), 1);
    }

    private static void latestAtEachSite() {
        FarStore x = store(4, 3);
        add(x, 1, 4, 3, 7);
        put(x, 1, 1, 8);
        for (int s = 0; s < 4; s++) {
            boolean there = s == 1;
            check.sentence(17, "What a TRANSACTION that began at a SITE now would READ");
            check.due("latest(" + s + ", 1)", x.latest(s, 1), there ? 8 : 0);
            check.sentence(18, "Of an ELEMENT of a SET likewise");
            check.due("sum(" + s + ", 4, 3)", x.sum(s, 4, 3), there ? 7 : 0);
            int t = x.begin(s);
            check.due("what it counts", x.counted(t, 4, 3), there ? 7 : 0);
            check.due("what it reads", x.read(t, 1), there ? 8 : 0);
            x.write(t, 1, 99);
            x.add(t, 4, 3, 99);
            check.due("not what an OPEN one wrote", x.latest(s, 1), there ? 8 : 0);
            check.due("not what an OPEN one added", x.sum(s, 4, 3), there ? 7 : 0);
        }
        x.deliver(2);
        x.deliver(4);
        check.due("SITE 3 has both", x.latest(3, 1), 8);
        check.due("SITE 3 has both", x.sum(3, 4, 3), 7);
        check.due("SITE 2 has neither", x.latest(2, 1), 0);
    }

    private static void seesAtItsNumber() {
        FarStore x = store(3, 1);
        add(x, 0, 3, 0, 1);
        add(x, 0, 3, 0, 1);
        int t = x.begin(0);
        add(x, 0, 3, 0, 1);
        add(x, 1, 3, 0, 1);
        check.sentence(20, "Whether a TRANSACTION's START has another one's COMMIT, or it is that one (1, 0)");
        int[] due = {1, 1, NONE, 0, 0};
        for (int other = 0; other < 5; other++) {
            check.due("sees(" + t + ", " + other + ")", x.sees(t, other), due[other]);
        }
        check.due("of itself", x.sees(4, 4), 1);
        check.due("of the one before", x.sees(1, 0), 1);
        check.due("of the one after", x.sees(0, 1), 0);
        check.due("of one of another SITE with the same number", x.sees(4, 0), 0);
        x.all(500);
        check.due("START is as it was, though it came", x.sees(4, 0), 0);
        check.due("one that began after it came", x.sees(x.begin(1), 3), 1);
        x.add(t, 3, 0, 1);
        x.commit(t);
        check.due("of itself, with a COMMIT now", x.sees(t, t), 1);
    }

    private static void calmAtTheLast() {
        for (int n = 2; n <= 4; n++) {
            for (int site = 0; site < n; site++) {
                FarStore x = store(n, 1);
                check.sentence(21, "Whether all SITES have HAD all COMMITS (1, 0)");
                check.due("no COMMITS", x.calm(), 1);
                put(x, site, site, 1);
                for (int came = 0; came < n - 1; came++) {
                    check.due("n " + n + ", " + came + " SENDS came", x.calm(), 0);
                    check.due("SEND", x.all(1), 1);
                }
                check.due("all SENDS came, no ACK", x.calm(), 1);
                check.due("ACKS under way", x.count(4), n - 1);
                check.sentence(3, "each has a HOME (a SITE)");
                check.due("the last THING, a SET", x.count(2), n + 1);
                check.sentence(19, "NONE");
                check.due("not LOCKED", x.locked(site, site), NONE);
            }
        }
    }
}
