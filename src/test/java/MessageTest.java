/** Promises 11 to 13: deliver, all, message. */
public final class MessageTest {
    private static final int BAD = -1, STATE = -2, NONE = -4;
    private static final int ASK = 0, YES = 1, NO = 2, DROP = 3, SEND = 4, ACK = 5;
    private static final int[] FAR = {-1, Integer.MIN_VALUE, Integer.MAX_VALUE};
    private static final Check check = new Check();

    public static void main(String[] args) {
        wrongNumbers();
        everyKind();
        noAndDrop();
        dropAheadOfAsk();
        secondNo();
        askOfAnAbortedOne();
        sendInOrder();
        sendWhereItsStartIs();
        allTakesTheFirstThatCan();
        allStopsAtN();
        check.end();
    }

    private static FarStore store(int n, int f) {
        FarStore x = new FarStore();
        x.sites(n, f);
        for (int s = 0; s < n; s++) {
            x.thing(s, false);
        }
        return x;
    }

    private static int put(FarStore x, int site, int... things) {
        int t = x.begin(site);
        for (int thing : things) {
            x.write(t, thing, 100 * t + thing + 1);
        }
        x.commit(t);
        return t;
    }

    private static void dueMessage(FarStore x, int i, int... due) {
        for (int what = 0; what < due.length; what++) {
            check.due("message(" + i + ", " + what + ")", x.message(i, what), due[what]);
        }
    }

    private static void wrongNumbers() {
        FarStore x = store(3, 1);
        check.due("deliver(0) of none", x.deliver(0), BAD);
        put(x, 0, 0);
        check.due("deliver(2) of two", x.deliver(2), BAD);
        check.due("message(2, 0)", x.message(2, 0), BAD);
        check.due("message(0, 5)", x.message(0, 5), BAD);
        check.due("message(2, 5)", x.message(2, 5), BAD);
        check.due("all(501)", x.all(501), BAD);
        for (int far : FAR) {
            check.due("deliver(far)", x.deliver(far), BAD);
            check.due("all(far)", x.all(far), BAD);
            check.due("message(far, 0)", x.message(far, 0), BAD);
            check.due("message(0, far)", x.message(0, far), BAD);
        }
        check.due("all(0)", x.all(0), 0);
        check.due("all are under way still", x.count(4), 2);
        check.due("message(1, 4)", x.message(1, 4), 1);
    }

    private static void everyKind() {
        FarStore x = store(3, 1);
        put(x, 0, 0, 2);
        check.due("one under way", x.count(4), 1);
        dueMessage(x, 0, ASK, 2, 0, 0, 1);
        check.due("ASK", x.deliver(0), ASK);
        dueMessage(x, 0, YES, 0, 2, 0, 1);
        check.due("YES", x.deliver(0), YES);
        dueMessage(x, 0, SEND, 1, 0, 0, 1);
        dueMessage(x, 1, SEND, 2, 0, 0, 1);
        check.due("SEND", x.deliver(1), SEND);
        dueMessage(x, 1, ACK, 0, 2, 0, 1);
        check.due("site 2 has had it", x.had(2, 0), 1);
        check.due("site 1 not yet", x.had(1, 0), 0);
        check.due("no ACK came yet", x.told(0, 3), 0);
        check.due("ACK", x.deliver(1), ACK);
        check.due("one came", x.told(0, 3), 1);
        check.due("SEND", x.deliver(0), SEND);
        check.due("ACK", x.deliver(0), ACK);
        check.due("none is left", x.count(4), 0);
    }

    private static void noAndDrop() {
        FarStore x = store(3, 1);
        x.begin(0);
        put(x, 1, 1);
        x.write(0, 0, 1);
        x.write(0, 1, 1);
        x.write(0, 2, 1);
        x.commit(0);
        dueMessage(x, 2, ASK, 1, 0, 0, 1);
        dueMessage(x, 3, ASK, 2, 0, 0, 1);
        x.deliver(3);
        check.due("site 2 says yes and locks", x.locked(2, 2), 0);
        x.deliver(2);
        dueMessage(x, 2, YES, 0, 2, 0, 1);
        dueMessage(x, 3, NO, 0, 1, 0, 1);
        check.due("nothing is locked at site 1", x.locked(1, 1), NONE);
        check.due("NO", x.deliver(3), NO);
        check.due("aborted", x.told(0, 0), 3);
        check.due("its own lock is no more", x.locked(0, 0), NONE);
        check.due("site 2's is, until the DROP", x.locked(2, 2), 0);
        dueMessage(x, 3, DROP, 1, 0, 0, 1);
        dueMessage(x, 4, DROP, 2, 0, 0, 1);
        check.due("YES after it is aborted", x.deliver(2), YES);
        check.due("is counted", x.told(0, 7), 1);
        check.due("and changes nothing", x.told(0, 0), 3);
        check.due("DROP", x.deliver(3), DROP);
        check.due("site 2's lock is no more", x.count(8), 0);
        check.due("SENDs and a DROP", x.count(4), 3);
    }

    private static void dropAheadOfAsk() {
        FarStore x = store(3, 1);
        x.begin(0);
        put(x, 1, 1);
        x.write(0, 1, 1);
        x.write(0, 2, 1);
        x.commit(0);
        x.deliver(2);
        check.due("the ASK to 2 is under way", x.message(2, 1), 2);
        check.due("NO", x.deliver(3), NO);
        dueMessage(x, 4, DROP, 2, 0, 0, 1);
        check.due("DROP ahead of the ASK", x.deliver(4), DROP);
        check.due("ASK", x.deliver(2), ASK);
        check.due("nothing is locked", x.count(8), 0);
        check.due("nothing is said", x.count(4), 3);
        put(x, 2, 2);
        check.due("others can lock there", x.told(2, 0), 2);
    }

    private static void secondNo() {
        FarStore x = store(3, 1);
        x.begin(0);
        put(x, 1, 1);
        put(x, 2, 2);
        x.write(0, 1, 1);
        x.write(0, 2, 1);
        x.commit(0);
        x.deliver(4);
        x.deliver(4);
        check.due("NO", x.deliver(4), NO);
        check.due("two DROPs", x.count(4), 7);
        check.due("NO", x.deliver(4), NO);
        check.due("no more DROPs", x.count(4), 6);
        check.due("aborted once", x.count(6), 1);
    }

    private static void askOfAnAbortedOne() {
        FarStore x = store(3, 1);
        x.begin(0);
        put(x, 1, 1);
        x.write(0, 1, 1);
        x.write(0, 2, 1);
        x.commit(0);
        x.deliver(2);
        x.deliver(3);
        check.due("aborted", x.told(0, 0), 3);
        check.due("the ASK comes ahead of the DROP", x.deliver(2), ASK);
        check.due("it locks", x.locked(2, 2), 0);
        check.due("a YES goes out", x.message(x.count(4) - 1, 0), YES);
        x.all(500);
        check.due("the DROP unlocks", x.locked(2, 2), NONE);
        check.due("it stays aborted", x.told(0, 0), 3);
        check.due("it has no COMMIT", x.told(0, 2), 0);
    }

    private static void sendInOrder() {
        FarStore x = store(2, 1);
        x.begin(0);
        x.begin(0);
        x.write(0, 0, 1);
        x.thing(0, false);
        x.write(1, 2, 2);
        x.commit(0);
        x.commit(1);
        dueMessage(x, 1, SEND, 1, 0, 1, 0);
        check.due("the second one can not come", x.deliver(1), STATE);
        check.due("nothing was changed", x.count(4), 2);
        check.due("nothing was had", x.had(1, 0), 0);
        check.due("SEND", x.deliver(0), SEND);
        dueMessage(x, 0, SEND, 1, 0, 1, 1);
        check.due("SEND", x.deliver(0), SEND);
        check.due("both were had", x.had(1, 0), 2);
        check.due("value", x.latest(1, 2), 2);
    }

    private static void sendWhereItsStartIs() {
        FarStore x = store(3, 1);
        put(x, 0, 0);
        x.deliver(0);
        put(x, 1, 1);
        check.due("SEND 0 to 2, ACK, SENDs of 1", x.count(4), 4);
        dueMessage(x, 2, SEND, 0, 1, 1, 1);
        dueMessage(x, 3, SEND, 2, 1, 1, 0);
        check.due("site 2 has not what it saw", x.deliver(3), STATE);
        check.due("none had", x.had(2, 1), 0);
        x.deliver(0);
        check.due("site 2 has it now", x.message(2, 4), 1);
        check.due("SEND", x.deliver(2), SEND);
        check.due("had", x.had(2, 1), 1);
        FarStore y = store(3, 1);
        put(y, 0, 0);
        put(y, 1, 1);
        check.due("what it did not see it does not need", y.deliver(3), SEND);
        check.due("had of 1", y.had(2, 1), 1);
        check.due("had of 0", y.had(2, 0), 0);
    }

    private static void allTakesTheFirstThatCan() {
        FarStore x = store(3, 1);
        put(x, 0, 0);
        x.deliver(0);
        put(x, 1, 1);
        x.deliver(1);
        check.due("SEND 0 to 2, SEND 1 to 0, SEND 1 to 2", x.count(4), 3);
        int blocker = x.message(0, 3);
        check.due("the first one", blocker, 0);
        check.due("all(1)", x.all(1), 1);
        check.due("it came", x.had(2, 0), 1);
        FarStore y = store(2, 1);
        y.thing(0, false);
        put(y, 0, 0);
        put(y, 0, 0);
        put(y, 0, 2);
        check.due("three SENDs", y.all(2), 2);
        check.due("the SENDs come ahead of the ACKs", y.had(1, 0), 2);
        check.due("all(1)", y.all(1), 1);
        check.due("the third", y.had(1, 0), 3);
        check.due("no ACK yet", y.told(0, 3), 0);
        check.due("the rest", y.all(500), 3);
        blockedOnesAreLeftOut();
    }

    private static void blockedOnesAreLeftOut() {
        FarStore x = store(3, 1);
        put(x, 0, 0);
        x.deliver(0);
        put(x, 1, 1);
        x.deliver(1);
        // Under way: SEND of 0 to 2, SENDs of 1 to 0 and to 2. Site 0 takes 1's, then commits on it.
        x.deliver(1);
        x.deliver(2);
        put(x, 0, 0);
        check.due("SEND of 0 to 2, of 1 to 2, of 2 to 1 and to 2", x.count(4), 4);
        dueMessage(x, 1, SEND, 2, 1, 1, 0);
        dueMessage(x, 3, SEND, 2, 0, 2, 0);
        check.due("all of them, and four ACKs", x.all(500), 8);
        check.due("site 2 has all", x.calm(), 1);
        check.due("none is left", x.count(4), 0);
    }

    private static void allStopsAtN() {
        FarStore x = new FarStore();
        x.sites(4, 3);
        x.thing(0, true);
        for (int i = 0; i < 100; i++) {
            x.begin(i % 4);
            x.add(i, 0, i % 8, 1);
            x.commit(i);
        }
        check.due("SENDs", x.count(4), 300);
        check.due("all(500)", x.all(500), 500);
        check.due("ACKs that are left", x.count(4), 100);
        check.due("calm", x.calm(), 1);
        check.due("all(99)", x.all(99), 99);
        check.due("one is left", x.count(4), 1);
        check.due("all(500)", x.all(500), 1);
        check.due("all(500) of none", x.all(500), 0);
        check.due("SAFE", x.count(9), 100);
    }
}
