import java.util.ArrayList;
import java.util.Arrays;

/**
 * A store kept at several sites far from one another. Transactions see what their site had when they began; commits
 * go to the other sites as messages, which come when deliver() or all() lets them.
 */
public final class FarStore {
    public static final int BAD = -1, STATE = -2, FULL = -3, NONE = -4;

    private static final int LEAST_SITES = 2, MOST_SITES = 4, MOST_THINGS = 12, MOST_TRANSACTIONS = 150;
    private static final int ELEMENTS = 8, MOST_TIMES = 500;
    private static final int OPEN = 0, ASKING = 1, COMMITTED = 2, ABORTED = 3;
    private static final int ASK = 0, YES = 1, NO = 2, DROP = 3, SEND = 4, ACK = 5;

    // All the sites there can ever be; only the first siteCount of them are in use.
    private final Site[] places = new Site[MOST_SITES];
    private int siteCount = 3;
    private int acksForSafe = 1;
    private final ArrayList<Thing> things = new ArrayList<>();
    private final ArrayList<Transaction> transactions = new ArrayList<>();
    private final ArrayList<Message> underWay = new ArrayList<>();

    public FarStore() {
        for (int s = 0; s < MOST_SITES; s++) {
            places[s] = new Site(s);
        }
    }

    public int sites(int n, int f) {
        if (n < LEAST_SITES || n > MOST_SITES || f < 0 || f > n - 1) {
            return BAD;
        }
        if (!things.isEmpty() || !transactions.isEmpty()) {
            return STATE;
        }
        siteCount = n;
        acksForSafe = f;
        return 1;
    }

    public int thing(int home, boolean set) {
        Site at = findSite(home);
        if (at == null) {
            return BAD;
        }
        int number = things.size();
        if (number >= MOST_THINGS) {
            return FULL;
        }
        things.add(new Thing(number, at, set));
        return number;
    }

    public int begin(int site) {
        Site at = findSite(site);
        if (at == null) {
            return BAD;
        }
        int number = transactions.size();
        if (number >= MOST_TRANSACTIONS) {
            return FULL;
        }
        transactions.add(new Transaction(number, at));
        return number;
    }

    public long read(int t, int thing) {
        Transaction x = findTransaction(t);
        Thing of = findPlain(thing);
        if (x == null || of == null) {
            return 0;
        }
        return x.wrote[of.number] ? x.values[of.number] : x.site.valueOf(of, x.seen);
    }

    public long counted(int t, int thing, int element) {
        Transaction x = findTransaction(t);
        Thing of = findSet(thing);
        if (x == null || of == null || !isElement(element)) {
            return 0;
        }
        int slot = of.slotOf(element);
        return x.added[slot] + x.site.countOf(slot, x.seen);
    }

    public int write(int t, int thing, long v) {
        Transaction x = findTransaction(t);
        Thing of = findPlain(thing);
        if (x == null || of == null) {
            return BAD;
        }
        if (x.state != OPEN) {
            return STATE;
        }
        x.put(of, v);
        return x.plainWritten;
    }

    public int add(int t, int thing, int element, int n) {
        Transaction x = findTransaction(t);
        Thing of = findSet(thing);
        if (x == null || of == null || !isElement(element)) {
            return BAD;
        }
        if (x.state != OPEN) {
            return STATE;
        }
        x.addTo(of.slotOf(element), n);
        return 1;
    }

    public int commit(int t) {
        Transaction x = findTransaction(t);
        if (x == null) {
            return BAD;
        }
        if (x.state != OPEN) {
            return STATE;
        }
        if (!allFree(x, x.site)) {
            x.state = ABORTED;
        } else if (hasHomesElsewhere(x)) {
            lockThings(x, x.site);
            x.state = ASKING;
            x.asks = tellHomes(x, ASK);
        } else {
            makeCommitted(x);
        }
        return x.state;
    }

    public int abort(int t) {
        Transaction x = findTransaction(t);
        if (x == null) {
            return BAD;
        }
        if (x.state != OPEN) {
            return STATE;
        }
        x.state = ABORTED;
        return 1;
    }

    public int deliver(int i) {
        Message m = findMessage(i);
        if (m == null) {
            return BAD;
        }
        if (!m.canCome()) {
            return STATE;
        }
        underWay.remove(i);
        receive(m);
        return m.what;
    }

    public int all(int n) {
        if (n < 0 || n > MOST_TIMES) {
            return BAD;
        }
        for (int came = 0; came < n; came++) {
            int i = firstThatCanCome();
            Message m = findMessage(i);
            if (m == null) {
                return came;
            }
            underWay.remove(i);
            receive(m);
        }
        return n;
    }

    public int message(int i, int what) {
        Message m = findMessage(i);
        if (m == null) {
            return BAD;
        }
        switch (what) {
            case 0: return m.what;
            case 1: return m.to.number;
            case 2: return m.from.number;
            case 3: return m.about.number;
            case 4: return oneIf(m.canCome());
            default: return BAD;
        }
    }

    public int told(int t, int what) {
        Transaction x = findTransaction(t);
        if (x == null) {
            return BAD;
        }
        switch (what) {
            case 0: return x.state;
            case 1: return x.site.number;
            case 2: return x.commitNumber;
            case 3: return x.acks;
            case 4: return oneIf(isSafe(x));
            case 5: return oneIf(isEverywhere(x));
            case 6: return x.plainWritten;
            case 7: return x.yeses;
            case 8: return x.asks;
            default: return BAD;
        }
    }

    public int start(int t, int site) {
        Transaction x = findTransaction(t);
        Site of = findSite(site);
        if (x == null || of == null) {
            return BAD;
        }
        return x.seen[of.number];
    }

    public int had(int site, int of) {
        Site at = findSite(site);
        Site from = findSite(of);
        if (at == null || from == null) {
            return BAD;
        }
        return at.taken[from.number];
    }

    public long latest(int site, int thing) {
        Site at = findSite(site);
        Thing of = findPlain(thing);
        if (at == null || of == null) {
            return 0;
        }
        return at.valueOf(of, at.taken);
    }

    public long sum(int site, int thing, int element) {
        Site at = findSite(site);
        Thing of = findSet(thing);
        if (at == null || of == null || !isElement(element)) {
            return 0;
        }
        return at.countOf(of.slotOf(element), at.taken);
    }

    public int locked(int site, int thing) {
        Site at = findSite(site);
        Thing of = findThing(thing);
        if (at == null || of == null) {
            return BAD;
        }
        return at.holders[of.number];
    }

    public int sees(int t, int other) {
        Transaction x = findTransaction(t);
        Transaction y = findTransaction(other);
        if (x == null || y == null) {
            return BAD;
        }
        if (!y.hasCommit()) {
            return NONE;
        }
        return oneIf(t == other || y.isWithin(x.seen));
    }

    public int calm() {
        for (int s = 0; s < siteCount; s++) {
            for (int of = 0; of < siteCount; of++) {
                if (places[s].taken[of] != places[of].taken[of]) {
                    return 0;
                }
            }
        }
        return 1;
    }

    public int count(int what) {
        switch (what) {
            case 0: return siteCount;
            case 1: return acksForSafe;
            case 2: return things.size();
            case 3: return transactions.size();
            case 4: return underWay.size();
            case 5: return howManyAre(COMMITTED);
            case 6: return howManyAre(ABORTED);
            case 7: return howManyCommits();
            case 8: return howManyLocks();
            case 9: return howManySafe();
            default: return BAD;
        }
    }

    private Site findSite(int site) {
        return site >= 0 && site < siteCount ? places[site] : null;
    }

    private Thing findThing(int thing) {
        return thing >= 0 && thing < things.size() ? things.get(thing) : null;
    }

    private Thing findPlain(int thing) {
        Thing of = findThing(thing);
        return of != null && !of.set ? of : null;
    }

    private Thing findSet(int thing) {
        Thing of = findThing(thing);
        return of != null && of.set ? of : null;
    }

    private Transaction findTransaction(int t) {
        return t >= 0 && t < transactions.size() ? transactions.get(t) : null;
    }

    private Message findMessage(int i) {
        return i >= 0 && i < underWay.size() ? underWay.get(i) : null;
    }

    private static boolean isElement(int element) {
        return element >= 0 && element < ELEMENTS;
    }

    private static int oneIf(boolean holds) {
        return holds ? 1 : 0;
    }

    private static boolean isPlainOf(Transaction x, Thing of, Site home) {
        return x.wrote[of.number] && of.home == home;
    }

    private boolean hasHome(Transaction x, Site home) {
        for (int i = 0; i < things.size(); i++) {
            if (isPlainOf(x, things.get(i), home)) {
                return true;
            }
        }
        return false;
    }

    private boolean hasHomesElsewhere(Transaction x) {
        for (int s = 0; s < siteCount; s++) {
            if (places[s] != x.site && hasHome(x, places[s])) {
                return true;
            }
        }
        return false;
    }

    private boolean allFree(Transaction x, Site home) {
        for (int i = 0; i < things.size(); i++) {
            Thing of = things.get(i);
            if (isPlainOf(x, of, home) && !home.isFree(of, x)) {
                return false;
            }
        }
        return true;
    }

    private void lockThings(Transaction x, Site home) {
        for (int i = 0; i < things.size(); i++) {
            Thing of = things.get(i);
            if (isPlainOf(x, of, home)) {
                home.holders[of.number] = x.number;
            }
        }
    }

    // What was written stays as it is once a transaction is not open, so the homes to drop are the homes asked.
    private int tellHomes(Transaction x, int what) {
        int many = 0;
        for (int s = 0; s < siteCount; s++) {
            if (places[s] != x.site && hasHome(x, places[s])) {
                post(what, x.site, places[s], x);
                many++;
            }
        }
        return many;
    }

    private void tellOthers(Transaction x, int what) {
        for (int s = 0; s < siteCount; s++) {
            if (places[s] != x.site) {
                post(what, x.site, places[s], x);
            }
        }
    }

    private void post(int what, Site from, Site to, Transaction about) {
        underWay.add(new Message(what, from, to, about));
    }

    private void makeCommitted(Transaction x) {
        x.state = COMMITTED;
        if (!x.wroteAnything()) {
            return;
        }
        x.commitNumber = x.site.taken[x.site.number] + 1;
        x.site.take(x);
        tellOthers(x, SEND);
    }

    private int firstThatCanCome() {
        for (int i = 0; i < underWay.size(); i++) {
            if (underWay.get(i).canCome()) {
                return i;
            }
        }
        return NONE;
    }

    private void receive(Message m) {
        switch (m.what) {
            case ASK: receiveAsk(m); break;
            case YES: receiveYes(m.about); break;
            case NO: receiveNo(m.about); break;
            case DROP: receiveDrop(m); break;
            case SEND: receiveSend(m); break;
            default: m.about.acks++; break;
        }
    }

    private void receiveAsk(Message m) {
        if (m.about.dropped[m.to.number]) {
            return;
        }
        boolean free = allFree(m.about, m.to);
        if (free) {
            lockThings(m.about, m.to);
        }
        post(free ? YES : NO, m.to, m.from, m.about);
    }

    // A yes can come after another site's no: it is counted, but then they can not all have said yes.
    private void receiveYes(Transaction x) {
        x.yeses++;
        if (x.state == ASKING && x.yeses == x.asks) {
            makeCommitted(x);
        }
    }

    private void receiveNo(Transaction x) {
        if (x.state != ASKING) {
            return;
        }
        x.state = ABORTED;
        x.site.unlock(x);
        tellHomes(x, DROP);
    }

    private void receiveDrop(Message m) {
        m.about.dropped[m.to.number] = true;
        m.to.unlock(m.about);
    }

    private void receiveSend(Message m) {
        m.to.take(m.about);
        post(ACK, m.to, m.from, m.about);
    }

    private boolean isSafe(Transaction x) {
        return x.hasCommit() && x.acks >= acksForSafe;
    }

    private boolean isEverywhere(Transaction x) {
        return x.hasCommit() && x.acks >= siteCount - 1;
    }

    private int howManyAre(int state) {
        int many = 0;
        for (int i = 0; i < transactions.size(); i++) {
            many += oneIf(transactions.get(i).state == state);
        }
        return many;
    }

    private int howManyCommits() {
        int many = 0;
        for (int s = 0; s < siteCount; s++) {
            many += places[s].taken[s];
        }
        return many;
    }

    private int howManyLocks() {
        int many = 0;
        for (int s = 0; s < siteCount; s++) {
            many += places[s].howManyLocked();
        }
        return many;
    }

    private int howManySafe() {
        int many = 0;
        for (int i = 0; i < transactions.size(); i++) {
            many += oneIf(isSafe(transactions.get(i)));
        }
        return many;
    }

    private static final class Thing {
        private final int number;
        private final Site home;
        private final boolean set;

        private Thing(int number, Site home, boolean set) {
            this.number = number;
            this.home = home;
            this.set = set;
        }

        // One row for all elements of all sets spares each transaction a row for every set.
        private int slotOf(int element) {
            return number * ELEMENTS + element;
        }
    }

    private static final class Site {
        private final int number;
        private final int[] taken = new int[MOST_SITES];
        // The order in which they came decides which value is the latest here.
        private final ArrayList<Transaction> inOrder = new ArrayList<>();
        private final int[] holders = new int[MOST_THINGS];

        private Site(int number) {
            this.number = number;
            Arrays.fill(holders, NONE);
        }

        private boolean isFree(Thing of, Transaction x) {
            if (holders[of.number] != NONE) {
                return false;
            }
            for (int i = 0; i < inOrder.size(); i++) {
                Transaction y = inOrder.get(i);
                if (y.wrote[of.number] && !y.isWithin(x.seen)) {
                    return false;
                }
            }
            return true;
        }

        private long valueOf(Thing of, int[] seen) {
            for (int i = inOrder.size() - 1; i >= 0; i--) {
                Transaction y = inOrder.get(i);
                if (y.wrote[of.number] && y.isWithin(seen)) {
                    return y.values[of.number];
                }
            }
            return 0;
        }

        private long countOf(int slot, int[] seen) {
            long total = 0;
            for (int i = 0; i < inOrder.size(); i++) {
                Transaction y = inOrder.get(i);
                if (y.isWithin(seen)) {
                    total += y.added[slot];
                }
            }
            return total;
        }

        private boolean canTake(Transaction x) {
            if (taken[x.site.number] < x.commitNumber - 1) {
                return false;
            }
            for (int s = 0; s < MOST_SITES; s++) {
                if (taken[s] < x.seen[s]) {
                    return false;
                }
            }
            return true;
        }

        private void take(Transaction x) {
            taken[x.site.number]++;
            inOrder.add(x);
            unlock(x);
        }

        private void unlock(Transaction x) {
            for (int i = 0; i < MOST_THINGS; i++) {
                if (holders[i] == x.number) {
                    holders[i] = NONE;
                }
            }
        }

        private int howManyLocked() {
            int many = 0;
            for (int i = 0; i < MOST_THINGS; i++) {
                many += oneIf(holders[i] != NONE);
            }
            return many;
        }
    }

    private static final class Transaction {
        private final int number;
        private final Site site;
        private final int[] seen;
        private final boolean[] wrote = new boolean[MOST_THINGS];
        private final long[] values = new long[MOST_THINGS];
        private final long[] added = new long[MOST_THINGS * ELEMENTS];
        private final boolean[] dropped = new boolean[MOST_SITES];
        private boolean addedAnything;
        private int plainWritten;
        private int state = OPEN;
        private int commitNumber;
        private int asks;
        private int yeses;
        private int acks;

        private Transaction(int number, Site site) {
            this.number = number;
            this.site = site;
            this.seen = site.taken.clone();
        }

        private void put(Thing of, long v) {
            if (!wrote[of.number]) {
                wrote[of.number] = true;
                plainWritten++;
            }
            values[of.number] = v;
        }

        private void addTo(int slot, int n) {
            added[slot] += n;
            addedAnything = true;
        }

        private boolean wroteAnything() {
            return plainWritten > 0 || addedAnything;
        }

        private boolean hasCommit() {
            return commitNumber > 0;
        }

        private boolean isWithin(int[] start) {
            return hasCommit() && commitNumber <= start[site.number];
        }
    }

    private static final class Message {
        private final int what;
        private final Site from;
        private final Site to;
        private final Transaction about;

        private Message(int what, Site from, Site to, Transaction about) {
            this.what = what;
            this.from = from;
            this.to = to;
            this.about = about;
        }

        private boolean canCome() {
            return what != SEND || to.canTake(about);
        }
    }
}
