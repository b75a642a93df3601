import java.util.ArrayList;
import java.util.HashMap;
import java.util.HashSet;
import java.util.List;
import java.util.Map;
import java.util.Random;
import java.util.Set;

/**
 * The document's first line, clause by clause, on mixed runs of calls. Nothing here knows how the store works: each
 * clause is what has to hold of its answers, whatever the calls were. The same calls are made on as many objects as
 * the questions need, so that no object gets more than 512.
 */
public final class FirstLineTest {
    private static final int RUNS = 300, MOST_STEPS = 160, MOST_TRANSACTIONS = 24;
    private static final int COMMITTED = 2;
    private static final Check check = new Check();

    private interface Step {
        int on(FarStore x);
    }

    /** One transaction as its calls tell it. */
    private static final class Told {
        final int site, begun;
        final Map<Integer, Long> written = new HashMap<>();
        final Map<List<Integer>, Long> added = new HashMap<>();

        Told(int site, int begun) {
            this.site = site;
            this.begun = begun;
        }
    }

    private final Random chance;
    private final List<Step> steps = new ArrayList<>();
    private final List<Integer> homes = new ArrayList<>();
    private final List<Boolean> sets = new ArrayList<>();
    private final List<Told> transactions = new ArrayList<>();
    private final FarStore scout = new FarStore();
    private final int n, f;

    public static void main(String[] args) {
        int commits = 0, asked = 0, aborted = 0;
        for (int seed = 0; seed < RUNS; seed++) {
            FirstLineTest run = new FirstLineTest(seed);
            run.seeWhatTheirSiteHad();
            run.withTheWordOfTheirHomes();
            run.goInOrder();
            run.sameEverywhere();
            FarStore end = run.settled();
            commits += end.count(7);
            aborted += end.count(6);
            for (int t = 0; t < run.transactions.size(); t++) {
                asked += end.told(t, 0) == COMMITTED && end.told(t, 8) > 0 ? 1 : 0;
            }
        }
        check.sentence(0, "the runs show what they are made for");
        check.holds(commits + " COMMITS", commits > 4 * RUNS);
        check.holds(asked + " of them with the word of others", asked > RUNS);
        check.holds(aborted + " ABORTED ones", aborted > RUNS);
        check.end();
    }

    private FirstLineTest(long seed) {
        chance = new Random(seed);
        n = 2 + chance.nextInt(3);
        f = chance.nextInt(n);
        take(x -> x.sites(n, f));
        int things = 3 + chance.nextInt(6);
        for (int i = 0; i < things; i++) {
            int home = chance.nextInt(n);
            boolean set = i > 0 && chance.nextInt(3) == 0;
            homes.add(home);
            sets.add(set);
            take(x -> x.thing(home, set));
        }
        while (steps.size() < MOST_STEPS) {
            oneMore();
        }
    }

    private int take(Step step) {
        steps.add(step);
        return step.on(scout);
    }

    private void oneMore() {
        int dice = chance.nextInt(100);
        if (dice < 15 || transactions.isEmpty()) {
            begin();
        } else if (dice < 40) {
            writeOrAdd(someTransaction());
        } else if (dice < 56) {
            commit(someTransaction());
        } else if (dice < 57) {
            int t = someTransaction();
            take(x -> x.abort(t));
        } else if (dice < 95) {
            int i = chance.nextInt(Math.max(1, scout.count(4)));
            take(x -> x.deliver(i));
        } else {
            int times = chance.nextInt(12);
            take(x -> x.all(times));
        }
    }

    private int someTransaction() {
        int many = transactions.size();
        return many - 1 - chance.nextInt(Math.min(many, 5));
    }

    private void begin() {
        if (transactions.size() == MOST_TRANSACTIONS) {
            take(x -> x.all(1));
            return;
        }
        int site = chance.nextInt(n);
        transactions.add(new Told(site, steps.size()));
        take(x -> x.begin(site));
    }

    /** Most that is at home elsewhere would quarrel, so a second look is given to one that is. */
    private int someThing(int site) {
        int thing = chance.nextInt(homes.size());
        return homes.get(thing) == site ? thing : chance.nextInt(homes.size());
    }

    /** Each value is written once only, so that it tells who wrote it. */
    private void writeOrAdd(int t) {
        int thing = someThing(transactions.get(t).site), element = chance.nextInt(8);
        if (sets.get(thing)) {
            int many = chance.nextInt(9) - 4;
            if (take(x -> x.add(t, thing, element, many)) == 1) {
                transactions.get(t).added.merge(List.of(thing, element), (long) many, Long::sum);
            }
        } else {
            long v = 1000 + steps.size();
            if (take(x -> x.write(t, thing, v)) > 0) {
                transactions.get(t).written.put(thing, v);
            }
        }
    }

    private void commit(int t) {
        boolean quarrels = !transactions.get(t).written.isEmpty();
        boolean open = scout.told(t, 0) == 0;
        int state = take(x -> x.commit(t));
        if (open && !quarrels) {
            check.sentence(0, "sets that count and never quarrel");
            check.due("commit(" + t + ") of one that wrote no PLAIN THING", state, COMMITTED);
        }
    }

    private FarStore play(int many) {
        FarStore x = new FarStore();
        for (int i = 0; i < many; i++) {
            steps.get(i).on(x);
        }
        return x;
    }

    private FarStore settled() {
        FarStore x = play(steps.size());
        while (x.all(500) == 500) {
            continue;
        }
        return x;
    }

    private void seeWhatTheirSiteHad() {
        for (int t = 0; t < transactions.size(); t++) {
            Told one = transactions.get(t);
            check.sentence(0, "transactions see what their site had when they began");
            sameView(t, play(one.begun), play(one.begun + 1), new Told(one.site, one.begun));
            sameView(t, play(one.begun), play(steps.size()), one);
            sameView(t, play(one.begun), settled(), one);
        }
    }

    private void sameView(int t, FarStore before, FarStore later, Told one) {
        for (int s = 0; s < n; s++) {
            check.due("start(" + t + ", " + s + ")", later.start(t, s), before.had(one.site, s));
        }
        for (int thing = 0; thing < homes.size(); thing++) {
            if (!sets.get(thing)) {
                long due = one.written.getOrDefault(thing, before.latest(one.site, thing));
                check.due("read(" + t + ", " + thing + ")", later.read(t, thing), due);
                continue;
            }
            for (int e = 0; e < 8; e++) {
                long own = one.added.getOrDefault(List.of(thing, e), 0L);
                check.due("counted(" + t + ", " + thing + ", " + e + ")", later.counted(t, thing, e),
                    own + before.sum(one.site, thing, e));
            }
        }
    }

    private void withTheWordOfTheirHomes() {
        FarStore end = play(steps.size());
        check.sentence(0, "things are written where they are at home, or with the word of their homes");
        List<Integer> commits = new ArrayList<>();
        for (int t = 0; t < transactions.size(); t++) {
            Told one = transactions.get(t);
            Set<Integer> others = new HashSet<>();
            for (int thing : one.written.keySet()) {
                others.add(homes.get(thing));
            }
            others.remove(one.site);
            if (end.told(t, 0) == COMMITTED) {
                check.due("ASKS of " + t, end.told(t, 8), others.size());
                check.due("YES of " + t, end.told(t, 7), others.size());
                boolean wrote = !one.written.isEmpty() || !one.added.isEmpty();
                check.due("COMMIT of " + t, end.told(t, 2) > 0 ? 1 : 0, wrote ? 1 : 0);
            }
            if (end.told(t, 2) > 0) {
                commits.add(t);
            }
        }
        for (int t : commits) {
            noneUnseen(t, commits);
        }
    }

    /** Of two COMMITS with the same PLAIN THING one has seen the other. */
    private void noneUnseen(int t, List<Integer> commits) {
        FarStore end = play(steps.size());
        for (int other : commits) {
            Set<Integer> both = new HashSet<>(transactions.get(t).written.keySet());
            both.retainAll(transactions.get(other).written.keySet());
            if (t < other && !both.isEmpty()) {
                check.due("sees(" + t + ", " + other + ") and back", end.sees(t, other) + end.sees(other, t), 1);
            }
        }
    }

    private void goInOrder() {
        int[][] before = new int[n][n];
        for (int many = 0; many <= steps.size(); many++) {
            FarStore x = play(many);
            int[][] had = new int[n][n];
            check.sentence(0, "commits go to the other sites in order");
            for (int s = 0; s < n && many > 0; s++) {
                for (int of = 0; of < n; of++) {
                    had[s][of] = x.had(s, of);
                    check.holds("had(" + s + ", " + of + ") does not fall", had[s][of] >= before[s][of]);
                }
            }
            lookAtCommits(x, had);
            before = had;
        }
    }

    private void lookAtCommits(FarStore x, int[][] had) {
        int[] highest = new int[n];
        int begun = x.count(3);
        for (int t = 0; t < begun; t++) {
            int number = x.told(t, 2), site = transactions.get(t).site;
            if (number == 0) {
                continue;
            }
            highest[site] = Math.max(highest[site], number);
            whereWhatItSawIs(x, t, number, had);
            int others = -1;
            for (int s = 0; s < n; s++) {
                others += had[s][site] >= number ? 1 : 0;
            }
            whatIsSafe(x, t, others);
        }
        check.sentence(0, "of its own all");
        for (int s = 0; s < n; s++) {
            check.due("had(" + s + ", " + s + ")", had[s][s], highest[s]);
        }
    }

    private void whereWhatItSawIs(FarStore x, int t, int number, int[][] had) {
        check.sentence(0, "each where all that it saw is");
        for (int of = 0; of < n; of++) {
            int saw = x.start(t, of);
            for (int s = 0; s < n; s++) {
                boolean hasIt = had[s][transactions.get(t).site] >= number;
                check.holds("SITE " + s + " has what " + t + " saw of " + of, !hasIt || had[s][of] >= saw);
            }
        }
    }

    private void whatIsSafe(FarStore x, int t, int others) {
        check.sentence(0, "what is safe");
        int acks = x.told(t, 3);
        check.holds("ACKS of " + t + " come from SITES that have it", acks <= others);
        check.due("SAFE: " + t, x.told(t, 4), acks >= f ? 1 : 0);
        check.due("EVERYWHERE: " + t, x.told(t, 5), acks == n - 1 ? 1 : 0);
    }

    private void sameEverywhere() {
        FarStore x = settled();
        check.sentence(0, "what is the same everywhere");
        check.due("messages", x.count(4), 0);
        check.due("LOCKS", x.count(8), 0);
        check.due("calm()", x.calm(), 1);
        check.due("SAFE COMMITS", x.count(9), x.count(7));
        for (int t = 0; t < transactions.size(); t++) {
            check.holds(t + " is not ASKING any more", x.told(t, 0) != 1);
        }
        for (int thing = 0; thing < homes.size(); thing++) {
            if (sets.get(thing)) {
                sameCounts(thing);
            } else {
                sameValue(thing);
            }
        }
    }

    /** The value of the one COMMIT that has seen all the others with this thing. */
    private void sameValue(int thing) {
        FarStore x = settled();
        long due = 0;
        for (int t = 0; t < transactions.size(); t++) {
            if (x.told(t, 2) > 0 && transactions.get(t).written.containsKey(thing) && seesAll(t, thing)) {
                due = transactions.get(t).written.get(thing);
            }
        }
        for (int s = 0; s < n; s++) {
            check.due("latest(" + s + ", " + thing + ")", x.latest(s, thing), due);
        }
    }

    private boolean seesAll(int t, int thing) {
        FarStore x = settled();
        for (int other = 0; other < transactions.size(); other++) {
            if (transactions.get(other).written.containsKey(thing) && x.sees(t, other) == 0) {
                return false;
            }
        }
        return true;
    }

    private void sameCounts(int thing) {
        FarStore x = settled();
        long[] due = new long[8];
        for (int t = 0; t < transactions.size(); t++) {
            for (int e = 0; e < 8 && x.told(t, 0) == COMMITTED; e++) {
                due[e] += transactions.get(t).added.getOrDefault(List.of(thing, e), 0L);
            }
        }
        for (int s = 0; s < n; s++) {
            for (int e = 0; e < 8; e++) {
                check.due("sum(" + s + ", " + thing + ", " + e + ")", x.sum(s, thing, e), due[e]);
            }
        }
    }
}
