import java.util.Random;

/** Long mixed runs of all calls, right and wrong, against the model. The seeds are fixed: each run is the same always. */
public final class ModelTest {
    private static final int RUNS = 2500, CALLS = 512;
    private static final int[] FAR = {-1, -2, 99, 150, 501, Integer.MIN_VALUE, Integer.MAX_VALUE};

    private final Random chance;
    private final FarStore x = new FarStore();
    private final Model y = new Model();
    private final boolean hurried;
    private int n = 3, things, transactions;
    private String call = "";
    private long got, want;

    private ModelTest(long seed) {
        chance = new Random(seed);
        // In a hurried run the transactions come fast, so that many messages are under way at once.
        hurried = seed % 5 == 0;
    }

    public static void main(String[] args) {
        long answers = 0;
        for (int seed = 0; seed < RUNS; seed++) {
            ModelTest run = new ModelTest(seed);
            for (int i = 0; i < CALLS; i++) {
                if (i < 8) {
                    run.prepare(i);
                } else {
                    run.step();
                }
                answers++;
                if (run.got != run.want) {
                    System.out.println("seed " + seed + ", call " + i + ": " + run.call + " answered " + run.got
                        + ", due is " + run.want);
                    System.exit(1);
                }
            }
        }
        System.out.println(answers + " answers are as due");
    }

    private void look(String name, long answer, long due) {
        call = name;
        got = answer;
        want = due;
    }

    /** A number from 0 to below end, now and then one that is wrong. */
    private int pick(int end) {
        int dice = chance.nextInt(60);
        if (dice == 0) return FAR[chance.nextInt(FAR.length)];
        if (dice == 1) return end;
        return end <= 0 ? 0 : chance.nextInt(end);
    }

    private int pickTransaction() {
        if (transactions > 6 && chance.nextInt(4) != 0) return transactions - 1 - chance.nextInt(6);
        return pick(transactions);
    }

    private void prepare(int i) {
        if (i == 0) {
            int sites = 1 + chance.nextInt(5);
            int f = chance.nextInt(5) - (chance.nextInt(10) == 0 ? 1 : 0);
            look("sites(" + sites + ", " + f + ")", x.sites(sites, f), y.sites(sites, f));
            n = y.count(0);
        } else {
            makeThing();
        }
    }

    private void makeThing() {
        int home = pick(n);
        boolean set = chance.nextInt(3) == 0;
        look("thing(" + home + ", " + set + ")", x.thing(home, set), y.thing(home, set));
        things = y.count(2);
    }

    private void step() {
        int dice = chance.nextInt(100);
        if (dice < (hurried ? 30 : 12)) {
            begin();
        } else if (dice < 48) {
            change();
        } else if (dice < 72) {
            come();
        } else {
            ask();
        }
    }

    private void begin() {
        int site = pick(n);
        look("begin(" + site + ")", x.begin(site), y.begin(site));
        transactions = y.count(3);
    }

    private void change() {
        int t = pickTransaction(), thing = pick(things), element = pick(8);
        int k = chance.nextInt(4) == 0 ? chance.nextInt() : chance.nextInt(7) - 3;
        switch (chance.nextInt(12)) {
            case 0, 1, 2, 3, 4 -> {
                long v = chance.nextInt(4) == 0 ? chance.nextLong() : chance.nextInt(5);
                look("write(" + t + ", " + thing + ", " + v + ")", x.write(t, thing, v), y.write(t, thing, v));
            }
            case 5, 6 -> look("add(" + t + ", " + thing + ", " + element + ", " + k + ")",
                x.add(t, thing, element, k), y.add(t, thing, element, k));
            case 7 -> {
                if (chance.nextInt(3) == 0) {
                    look("abort(" + t + ")", x.abort(t), y.abort(t));
                } else if (chance.nextInt(8) == 0) {
                    makeThing();
                } else {
                    look("commit(" + t + ")", x.commit(t), y.commit(t));
                }
            }
            default -> look("commit(" + t + ")", x.commit(t), y.commit(t));
        }
    }

    private void come() {
        if (chance.nextInt(10) == 0) {
            int times = chance.nextInt(5) == 0 ? pick(501) : pick(6);
            look("all(" + times + ")", x.all(times), y.all(times));
        } else {
            int i = pick(y.count(4));
            look("deliver(" + i + ")", x.deliver(i), y.deliver(i));
        }
    }

    private void ask() {
        int t = pickTransaction(), other = pickTransaction(), site = pick(n), of = pick(n), thing = pick(things);
        int element = pick(8), i = pick(y.count(4)), what = pick(11);
        switch (chance.nextInt(14)) {
            case 0 -> look("read(" + t + ", " + thing + ")", x.read(t, thing), y.read(t, thing));
            case 1 -> look("counted(" + t + ", " + thing + ", " + element + ")", x.counted(t, thing, element),
                y.counted(t, thing, element));
            case 2, 3 -> look("message(" + i + ", " + what % 6 + ")", x.message(i, what % 6), y.message(i, what % 6));
            case 4, 5 -> look("told(" + t + ", " + what + ")", x.told(t, what), y.told(t, what));
            case 6 -> look("start(" + t + ", " + site + ")", x.start(t, site), y.start(t, site));
            case 7 -> look("had(" + site + ", " + of + ")", x.had(site, of), y.had(site, of));
            case 8 -> look("latest(" + site + ", " + thing + ")", x.latest(site, thing), y.latest(site, thing));
            case 9 -> look("sum(" + site + ", " + thing + ", " + element + ")", x.sum(site, thing, element),
                y.sum(site, thing, element));
            case 10 -> look("locked(" + site + ", " + thing + ")", x.locked(site, thing), y.locked(site, thing));
            case 11 -> look("sees(" + t + ", " + other + ")", x.sees(t, other), y.sees(t, other));
            case 12 -> look("calm()", x.calm(), y.calm());
            default -> look("count(" + what + ")", x.count(what), y.count(what));
        }
    }
}
