import java.util.ArrayList;
import java.util.HashMap;
import java.util.HashSet;
import java.util.List;
import java.util.Map;
import java.util.Set;
import java.util.TreeMap;
import java.util.TreeSet;

/**
 * The document told a second time, for comparison: what a site has had and what a START has are here the commits
 * themselves (by their transactions' numbers), not how many there are of each site.
 */
final class Model {
    private static final int BAD = -1, STATE = -2, FULL = -3, NONE = -4;
    private static final List<String> KINDS = List.of("ASK", "YES", "NO", "DROP", "SEND", "ACK");

    private record Message(String kind, int from, int to, int t) { }

    private static final class Tx {
        int site, number, acks, yes;
        int state;
        Set<Integer> start;
        Map<Integer, Long> written = new TreeMap<>();
        Map<List<Integer>, Long> added = new HashMap<>();
        Set<Integer> asked = new TreeSet<>();
        Set<Integer> dropped = new HashSet<>();
    }

    private int n = 3, f = 1;
    private final List<Integer> homes = new ArrayList<>();
    private final List<Boolean> sets = new ArrayList<>();
    private final List<Tx> txs = new ArrayList<>();
    private final List<List<Integer>> had = new ArrayList<>();
    private final Map<List<Integer>, Integer> locks = new HashMap<>();
    private final List<Message> mail = new ArrayList<>();

    Model() {
        for (int s = 0; s < 4; s++) {
            had.add(new ArrayList<>());
        }
    }

    private boolean noSite(int s) { return s < 0 || s >= n; }
    private boolean noTx(int t) { return t < 0 || t >= txs.size(); }
    private boolean noThing(int x) { return x < 0 || x >= homes.size(); }
    private boolean notPlain(int x) { return noThing(x) || sets.get(x); }
    private boolean notSet(int x, int e) { return noThing(x) || !sets.get(x) || e < 0 || e > 7; }

    int sites(int sites, int safe) {
        if (sites < 2 || sites > 4 || safe < 0 || safe >= sites) return BAD;
        if (homes.size() + txs.size() > 0) return STATE;
        n = sites;
        f = safe;
        return 1;
    }

    int thing(int home, boolean set) {
        if (noSite(home)) return BAD;
        if (homes.size() == 12) return FULL;
        homes.add(home);
        sets.add(set);
        return homes.size() - 1;
    }

    int begin(int site) {
        if (noSite(site)) return BAD;
        if (txs.size() == 150) return FULL;
        Tx x = new Tx();
        x.site = site;
        x.start = new HashSet<>(had.get(site));
        txs.add(x);
        return txs.size() - 1;
    }

    private long valueIn(int site, Set<Integer> start, int thing) {
        long value = 0;
        for (int c : had.get(site)) {
            if (start.contains(c)) value = txs.get(c).written.getOrDefault(thing, value);
        }
        return value;
    }

    private long countIn(int site, Set<Integer> start, int thing, int element) {
        long count = 0;
        for (int c : had.get(site)) {
            if (start.contains(c)) count += txs.get(c).added.getOrDefault(List.of(thing, element), 0L);
        }
        return count;
    }

    long read(int t, int thing) {
        if (noTx(t) || notPlain(thing)) return 0;
        Tx x = txs.get(t);
        return x.written.containsKey(thing) ? x.written.get(thing) : valueIn(x.site, x.start, thing);
    }

    long counted(int t, int thing, int element) {
        if (noTx(t) || notSet(thing, element)) return 0;
        Tx x = txs.get(t);
        return x.added.getOrDefault(List.of(thing, element), 0L) + countIn(x.site, x.start, thing, element);
    }

    int write(int t, int thing, long v) {
        if (noTx(t) || notPlain(thing)) return BAD;
        if (txs.get(t).state != 0) return STATE;
        txs.get(t).written.put(thing, v);
        return txs.get(t).written.size();
    }

    int add(int t, int thing, int element, int k) {
        if (noTx(t) || notSet(thing, element)) return BAD;
        if (txs.get(t).state != 0) return STATE;
        txs.get(t).added.merge(List.of(thing, element), (long) k, Long::sum);
        return 1;
    }

    private List<Integer> writtenAt(Tx x, int home) {
        List<Integer> list = new ArrayList<>();
        for (int thing : x.written.keySet()) {
            if (homes.get(thing) == home) list.add(thing);
        }
        return list;
    }

    /** Locks all that it wrote with this home, or nothing. */
    private boolean lock(int t, int site) {
        Tx x = txs.get(t);
        List<Integer> list = writtenAt(x, site);
        for (int thing : list) {
            if (locks.containsKey(List.of(site, thing))) return false;
            for (int c : had.get(site)) {
                if (txs.get(c).written.containsKey(thing) && !x.start.contains(c)) return false;
            }
        }
        for (int thing : list) locks.put(List.of(site, thing), t);
        return true;
    }

    private void unlock(int t, int site) {
        locks.entrySet().removeIf(e -> e.getKey().get(0) == site && e.getValue() == t);
    }

    int commit(int t) {
        if (noTx(t)) return BAD;
        Tx x = txs.get(t);
        if (x.state != 0) return STATE;
        for (int thing : x.written.keySet()) {
            if (homes.get(thing) != x.site) x.asked.add(homes.get(thing));
        }
        if (!lock(t, x.site)) {
            x.state = 3;
            x.asked.clear();
        } else if (x.asked.isEmpty()) {
            committed(t);
        } else {
            x.state = 1;
            for (int s : x.asked) mail.add(new Message("ASK", x.site, s, t));
        }
        return x.state;
    }

    private void committed(int t) {
        Tx x = txs.get(t);
        x.state = 2;
        if (x.written.isEmpty() && x.added.isEmpty()) return;
        x.number = had(x.site, x.site) + 1;
        had.get(x.site).add(t);
        unlock(t, x.site);
        for (int s = 0; s < n; s++) {
            if (s != x.site) mail.add(new Message("SEND", x.site, s, t));
        }
    }

    int abort(int t) {
        if (noTx(t)) return BAD;
        if (txs.get(t).state != 0) return STATE;
        txs.get(t).state = 3;
        return 1;
    }

    private boolean canCome(Message m) {
        if (!m.kind.equals("SEND")) return true;
        Set<Integer> need = new HashSet<>(txs.get(m.t).start);
        for (int c = 0; c < txs.size(); c++) {
            Tx y = txs.get(c);
            if (y.site == m.from && y.number > 0 && y.number < txs.get(m.t).number) need.add(c);
        }
        return had.get(m.to).containsAll(need);
    }

    int deliver(int i) {
        if (i < 0 || i >= mail.size()) return BAD;
        Message m = mail.get(i);
        if (!canCome(m)) return STATE;
        mail.remove(i);
        Tx x = txs.get(m.t);
        switch (m.kind) {
            case "ASK" -> {
                if (!x.dropped.contains(m.to)) mail.add(new Message(lock(m.t, m.to) ? "YES" : "NO", m.to, m.from, m.t));
            }
            case "YES" -> {
                x.yes++;
                if (x.yes == x.asked.size()) committed(m.t);
            }
            case "NO" -> {
                if (x.state == 1) {
                    x.state = 3;
                    unlock(m.t, x.site);
                    for (int s : x.asked) mail.add(new Message("DROP", x.site, s, m.t));
                }
            }
            case "DROP" -> {
                unlock(m.t, m.to);
                x.dropped.add(m.to);
            }
            case "SEND" -> {
                had.get(m.to).add(m.t);
                unlock(m.t, m.to);
                mail.add(new Message("ACK", m.to, m.from, m.t));
            }
            default -> x.acks++;
        }
        return KINDS.indexOf(m.kind);
    }

    int all(int times) {
        if (times < 0 || times > 500) return BAD;
        int came = 0;
        while (came < times && deliverFirst()) came++;
        return came;
    }

    private boolean deliverFirst() {
        for (int i = 0; i < mail.size(); i++) {
            if (deliver(i) != STATE) return true;
        }
        return false;
    }

    int message(int i, int what) {
        if (i < 0 || i >= mail.size() || what < 0 || what > 4) return BAD;
        Message m = mail.get(i);
        return new int[] {KINDS.indexOf(m.kind), m.to, m.from, m.t, canCome(m) ? 1 : 0}[what];
    }

    private boolean safe(Tx x) { return x.number > 0 && x.acks >= f; }

    int told(int t, int what) {
        if (noTx(t) || what < 0 || what > 8) return BAD;
        Tx x = txs.get(t);
        boolean everywhere = x.number > 0 && x.acks == n - 1;
        return new int[] {x.state, x.site, x.number, x.acks, safe(x) ? 1 : 0, everywhere ? 1 : 0, x.written.size(),
            x.yes, x.asked.size()}[what];
    }

    private int of(Iterable<Integer> commits, int site) {
        int many = 0;
        for (int c : commits) {
            if (txs.get(c).site == site) many++;
        }
        return many;
    }

    int start(int t, int site) { return noTx(t) || noSite(site) ? BAD : of(txs.get(t).start, site); }

    int had(int site, int of) { return noSite(site) || noSite(of) ? BAD : of(had.get(site), of); }

    long latest(int site, int thing) {
        return noSite(site) || notPlain(thing) ? 0 : valueIn(site, new HashSet<>(had.get(site)), thing);
    }

    long sum(int site, int thing, int element) {
        if (noSite(site) || notSet(thing, element)) return 0;
        return countIn(site, new HashSet<>(had.get(site)), thing, element);
    }

    int locked(int site, int thing) {
        return noSite(site) || noThing(thing) ? BAD : locks.getOrDefault(List.of(site, thing), NONE);
    }

    int sees(int t, int other) {
        if (noTx(t) || noTx(other)) return BAD;
        if (txs.get(other).number == 0) return NONE;
        return t == other || txs.get(t).start.contains(other) ? 1 : 0;
    }

    int calm() {
        for (int s = 0; s < n; s++) {
            if (had.get(s).size() != count(7)) return 0;
        }
        return 1;
    }

    private int inState(int state) {
        int many = 0;
        for (Tx x : txs) {
            if (x.state == state) many++;
        }
        return many;
    }

    int count(int what) {
        if (what < 0 || what > 9) return BAD;
        int commits = 0, safe = 0;
        for (Tx x : txs) {
            if (x.number > 0) commits++;
            if (safe(x)) safe++;
        }
        return new int[] {n, f, homes.size(), txs.size(), mail.size(), inState(2), inState(3), commits, locks.size(),
            safe}[what];
    }
}
