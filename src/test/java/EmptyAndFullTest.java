/** The empty store and the full one: no thing, no transaction, no message; and as many as there can be. */
public final class EmptyAndFullTest {
    private static final int BAD = -1, STATE = -2, FULL = -3, NONE = -4;
    private static final int OPEN = 0, ASKING = 1, COMMITTED = 2, ABORTED = 3;
    private static final Check check = new Check();

    public static void main(String[] args) {
        newObject();
        emptyRefusesAll();
        emptyTakesTheFirst();
        objectsAreApart();
        for (int n = 2; n <= 4; n++) {
            oneSitesCommits(n);
        }
        mostMessages();
        mostTimes();
        mostThingsOfOne();
        mostThingsThatQuarrel();
        aFullStoreGoesOn();
        theLastCall();
        check.hasNamed(0, 1, 2, 3, 4, 5, 6, 7, 8, 9, 10, 11, 12, 13, 14, 15, 16, 17, 18, 19, 20, 21, 22);
        check.end();
    }

    private static void newObject() {
        FarStore x = new FarStore();
        check.sentence(1, "No THINGS, no TRANSACTIONS");
        check.due("THINGS", x.count(2), 0);
        check.due("TRANSACTIONS", x.count(3), 0);
        check.due("messages", x.count(4), 0);
        check.sentence(0, "n 2 to 4; 3 at first");
        check.due("SITES", x.count(0), 3);
        check.due("the last SITE", x.had(2, 2), 0);
        check.due("none after it", x.had(3, 3), BAD);
        check.sentence(0, "F (0 to n - 1; 1 at first)");
        check.due("F", x.count(1), 1);
        check.sentence(22, "How many");
        for (int what = 5; what <= 9; what++) {
            check.due("count(" + what + ")", x.count(what), 0);
        }
        check.sentence(21, "Whether all SITES have HAD all COMMITS");
        check.due("calm()", x.calm(), 1);
        check.sentence(2, "n SITES and F: 1");
        check.due("sites(2, 0)", x.sites(2, 0), 1);
        check.due("sites(4, 3)", x.sites(4, 3), 1);
        check.due("sites(3, 1)", x.sites(3, 1), 1);
    }

    private static void emptyRefusesAll() {
        FarStore x = new FarStore();
        int[] numbers = {-1, 0, 1, Integer.MIN_VALUE, Integer.MAX_VALUE};
        for (int a : numbers) {
            check.sentence(5, "0 also: there is none such");
            check.due("read(" + a + ", 0)", x.read(a, 0), 0);
            check.sentence(6, "0 also: there is none such");
            check.due("counted(" + a + ", 0, 0)", x.counted(a, 0, 0), 0);
            check.sentence(7, "BAD");
            check.due("write(" + a + ", 0, 0)", x.write(a, 0, 0), BAD);
            check.sentence(8, "BAD");
            check.due("add(" + a + ", 0, 0, 0)", x.add(a, 0, 0, 0), BAD);
            check.sentence(9, "BAD");
            check.due("commit(" + a + ")", x.commit(a), BAD);
            check.sentence(10, "BAD");
            check.due("abort(" + a + ")", x.abort(a), BAD);
            check.sentence(11, "BAD");
            check.due("deliver(" + a + ")", x.deliver(a), BAD);
            check.sentence(13, "BAD");
            check.due("message(" + a + ", 0)", x.message(a, 0), BAD);
            check.sentence(14, "BAD");
            check.due("told(" + a + ", 0)", x.told(a, 0), BAD);
            check.sentence(15, "BAD");
            check.due("start(" + a + ", 0)", x.start(a, 0), BAD);
            check.sentence(17, "0 also: there is none such");
            check.due("latest(0, " + a + ")", x.latest(0, a), 0);
            check.sentence(18, "Of an ELEMENT of a SET likewise");
            check.due("sum(0, " + a + ", 0)", x.sum(0, a, 0), 0);
            check.sentence(19, "BAD; NONE");
            check.due("locked(0, " + a + ")", x.locked(0, a), BAD);
            check.sentence(20, "BAD; NONE: the other one has no COMMIT");
            check.due("sees(" + a + ", " + a + ")", x.sees(a, a), BAD);
        }
        check.sentence(12, "how many came");
        check.due("all(0)", x.all(0), 0);
        check.due("all(1)", x.all(1), 0);
        check.due("all(500)", x.all(500), 0);
    }

    private static void emptyTakesTheFirst() {
        check.sentence(3, "A THING: its number");
        check.due("the first", new FarStore().thing(0, false), 0);
        check.due("the first, a SET", new FarStore().thing(2, true), 0);
        check.sentence(4, "A TRANSACTION begins at a SITE: its number");
        FarStore x = new FarStore();
        check.due("the first, with no THING there", x.begin(2), 0);
        check.sentence(9, "without anything written, too: with no COMMIT");
        check.due("commit, with no THING there", x.commit(0), COMMITTED);
        check.due("its COMMIT", x.told(0, 2), 0);
        check.sentence(3, "numbered as they come");
        check.due("a THING after a TRANSACTION", x.thing(1, true), 0);
        check.sentence(4, "numbered as they come");
        check.due("a TRANSACTION after a THING", x.begin(1), 1);
    }

    private static void objectsAreApart() {
        FarStore x = new FarStore();
        x.sites(4, 3);
        x.thing(3, false);
        x.begin(3);
        x.write(0, 0, 5);
        x.commit(0);
        FarStore y = new FarStore();
        check.sentence(1, "No THINGS, no TRANSACTIONS");
        int[] due = {3, 1, 0, 0, 0, 0, 0, 0, 0, 0};
        for (int what = 0; what < due.length; what++) {
            check.due("a second object: count(" + what + ")", y.count(what), due[what]);
        }
    }

    /** All 150 transactions commit at the last site, one after the other. */
    private static void oneSitesCommits(int n) {
        FarStore x = new FarStore();
        int site = n - 1;
        x.sites(n, 1);
        x.thing(site, false);
        for (int t = 0; t < 149; t++) {
            x.begin(site);
            x.write(t, 0, t);
            x.commit(t);
        }
        check.sentence(4, "FULL");
        check.due("the 150th", x.begin(site), 149);
        check.due("the 151st", x.begin(site), FULL);
        check.due("the 151st at another SITE", x.begin(0), FULL);
        check.sentence(15, "How many COMMITS of a SITE its START has");
        check.due("the last one's own SITE", x.start(149, site), 149);
        check.due("another SITE", x.start(149, 0), 0);
        check.sentence(5, "What it READS of a PLAIN THING");
        check.due("the last one", x.read(149, 0), 148);
        check.sentence(9, "its state then");
        x.write(149, 0, 149);
        check.due("the last one", x.commit(149), COMMITTED);
        check.sentence(14, "the number of its COMMIT");
        check.due("the first", x.told(0, 2), 1);
        check.due("the last", x.told(149, 2), 150);
        check.sentence(16, "How many COMMITS of SITE of another one has HAD");
        check.due("of its own all", x.had(site, site), 150);
        check.due("another SITE", x.had(0, site), 0);
        check.sentence(11, "STATE: a SEND that can not come");
        int last = 150 * (n - 1) - 1;
        check.due("the last SEND", x.deliver(last), STATE);
        check.due("there is none after it", x.deliver(last + 1), BAD);
        check.sentence(22, "4 messages .. 7 COMMITS");
        check.due("messages", x.count(4), last + 1);
        check.due("COMMITS", x.count(7), 150);
        for (int came = 0; came < 300 * (n - 1); came += 500) {
            x.all(500);
        }
        check.sentence(21, "Whether all SITES have HAD all COMMITS");
        check.due("calm()", x.calm(), 1);
        check.due("messages", x.count(4), 0);
        check.due("SAFE", x.count(9), 150);
        check.due("had", x.had(0, site), 150);
        check.due("latest", x.latest(0, 0), 149);
    }

    /** 150 commits at four sites: 450 SENDs, then 450 ACKs. */
    private static FarStore manyMessages() {
        FarStore x = new FarStore();
        x.sites(4, 3);
        x.thing(0, true);
        for (int t = 0; t < 150; t++) {
            x.begin(t % 4);
            x.add(t, 0, 7, 1);
            x.commit(t);
        }
        return x;
    }

    private static void mostTimes() {
        FarStore x = manyMessages();
        check.sentence(12, "n times (0 to 500): how many came");
        check.due("all(500) of 900", x.all(500), 500);
        check.due("messages", x.count(4), 400);
        check.due("all(500) of 400", x.all(500), 400);
        check.due("all(500) of none", x.all(500), 0);
    }

    private static void mostMessages() {
        FarStore x = manyMessages();
        check.sentence(13, "Of message i");
        check.due("the last", x.message(449, 3), 149);
        check.due("there is none after it", x.message(450, 3), BAD);
        check.sentence(12, "n times (0 to 500): how many came");
        check.due("all(501)", x.all(501), BAD);
        check.due("450 under way still", x.count(4), 450);
        check.due("all(449)", x.all(449), 449);
        check.due("a SEND is left", x.message(0, 0), 4);
        check.due("not calm", x.calm(), 0);
        check.due("all(1)", x.all(1), 1);
        check.due("calm", x.calm(), 1);
        check.due("ACKS", x.count(4), 450);
        check.due("none SAFE", x.count(9), 0);
        check.due("all(449)", x.all(449), 449);
        check.due("all but one SAFE", x.count(9), 149);
        check.due("all(500)", x.all(500), 1);
        check.due("all SAFE", x.count(9), 150);
        check.due("all(500), none left", x.all(500), 0);
        check.sentence(18, "Of an ELEMENT of a SET likewise");
        for (int s = 0; s < 4; s++) {
            check.due("sum(" + s + ", 0, 7)", x.sum(s, 0, 7), 150);
        }
    }

    private static FarStore twelvePlain() {
        FarStore x = new FarStore();
        x.sites(4, 3);
        for (int i = 0; i < 12; i++) {
            x.thing(i % 4, false);
        }
        return x;
    }

    private static void mostThingsOfOne() {
        FarStore x = twelvePlain();
        check.sentence(3, "FULL");
        check.due("the 13th", x.thing(0, false), FULL);
        check.due("THINGS", x.count(2), 12);
        x.begin(1);
        check.sentence(7, "how many PLAIN THINGS it wrote");
        for (int i = 0; i < 12; i++) {
            check.due("thing " + i, x.write(0, 11 - i, 100 - i), i + 1);
        }
        check.due("one of them again", x.write(0, 0, 89), 12);
        check.sentence(9, "ASKING: an ASK is sent to each other SITE that is a HOME of some, by numbers");
        check.due("commit", x.commit(0), ASKING);
        check.due("ASKS", x.told(0, 8), 3);
        int[] asked = {0, 2, 3};
        for (int i = 0; i < 3; i++) {
            check.due("ASK " + i + " goes to", x.message(i, 1), asked[i]);
        }
        check.sentence(22, "8 LOCKS");
        check.due("its own SITE's", x.count(8), 3);
        check.due("ASKS come", x.all(3), 3);
        check.due("all", x.count(8), 12);
        check.sentence(19, "Which TRANSACTION has LOCKED a THING at a SITE");
        for (int s = 0; s < 4; s++) {
            for (int i = 0; i < 12; i++) {
                check.due("locked(" + s + ", " + i + ")", x.locked(s, i), i % 4 == s ? 0 : NONE);
            }
        }
        check.sentence(9, "When all have said YES, it is COMMITTED");
        check.due("two of three", x.all(2), 2);
        check.due("its state", x.told(0, 0), ASKING);
        check.due("the third", x.all(1), 1);
        check.due("its state", x.told(0, 0), COMMITTED);
        check.due("LOCKS elsewhere", x.count(8), 9);
        check.due("SENDS", x.all(3), 3);
        check.due("no LOCKS", x.count(8), 0);
        check.sentence(17, "What a TRANSACTION that began at a SITE now would READ");
        for (int i = 0; i < 12; i++) {
            check.due("latest(3, " + i + ")", x.latest(3, i), 89 + i);
        }
    }

    /** Four transactions at four sites want all twelve things: none gets the word of all, and no lock is left. */
    private static void mostThingsThatQuarrel() {
        FarStore x = twelvePlain();
        for (int t = 0; t < 4; t++) {
            x.begin(t);
            for (int i = 0; i < 12; i++) {
                x.write(t, i, t);
            }
        }
        check.sentence(9, "those with their HOME at its SITE are LOCKED by it there");
        for (int t = 0; t < 4; t++) {
            check.due("commit(" + t + ")", x.commit(t), ASKING);
        }
        check.due("LOCKS", x.count(8), 12);
        check.due("ASKS", x.count(4), 12);
        check.sentence(11, "else a NO");
        check.due("ASKS come", x.all(12), 12);
        for (int i = 0; i < 12; i++) {
            check.due("message(" + i + ", 0)", x.message(i, 0), 2);
        }
        check.due("NOS come", x.all(12), 12);
        check.sentence(11, "a DROP is sent to each SITE that was asked, by numbers");
        check.due("DROPS, of each one once", x.count(4), 12);
        check.due("LOCKS", x.count(8), 0);
        check.sentence(22, "6 ABORTED ones");
        check.due("count(6)", x.count(6), 4);
        check.due("DROPS come", x.all(500), 12);
        check.due("none left", x.count(4), 0);
    }

    private static void aFullStoreGoesOn() {
        FarStore x = new FarStore();
        for (int i = 0; i < 12; i++) {
            x.thing(i % 3, i == 11);
        }
        for (int t = 0; t < 150; t++) {
            x.begin(t % 3);
        }
        check.sentence(2, "STATE: there are THINGS, TRANSACTIONS");
        check.due("sites(3, 1)", x.sites(3, 1), STATE);
        check.sentence(7, "It writes a PLAIN THING");
        check.due("write(149, 10, 1)", x.write(149, 10, 1), 1);
        check.sentence(8, "It adds to an ELEMENT of a SET: 1");
        check.due("add(149, 11, 7, 1)", x.add(149, 11, 7, 1), 1);
        check.sentence(9, "its state then");
        check.due("commit(149)", x.commit(149), ASKING);
        check.sentence(10, "It is ABORTED: 1");
        check.due("abort(148)", x.abort(148), 1);
        check.sentence(4, "FULL");
        check.due("begin(0), though one is ABORTED", x.begin(0), FULL);
        check.sentence(12, "how many came");
        check.due("all(500): ASK, YES, 2 SENDS, 2 ACKS", x.all(500), 6);
        check.sentence(6, "The COUNT of an ELEMENT that it READS");
        check.due("counted(149, 11, 7)", x.counted(149, 11, 7), 1);
        check.sentence(20, "Whether a TRANSACTION's START has another one's COMMIT");
        check.due("sees(0, 149)", x.sees(0, 149), 0);
        check.due("sees(149, 149)", x.sees(149, 149), 1);
        check.due("sees(149, 148)", x.sees(149, 148), NONE);
        check.sentence(22, "5 COMMITTED ones, 6 ABORTED ones");
        check.due("count(5)", x.count(5), 1);
        check.due("count(6)", x.count(6), 1);
        check.due("the rest are OPEN", x.told(147, 0), OPEN);
        check.due("told(148, 0)", x.told(148, 0), ABORTED);
    }

    private static void theLastCall() {
        check.sentence(0, "An object is used for at most 512 calls");
        FarStore x = new FarStore();
        x.thing(0, true);
        x.begin(0);
        for (int call = 2; call < 510; call++) {
            x.add(0, 0, 0, 1);
        }
        check.due("call 511", x.commit(0), COMMITTED);
        check.due("call 512", x.sum(0, 0, 0), 508);
    }
}
