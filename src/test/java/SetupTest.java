/** Promises 1 to 4: a new object, sites, thing, begin. */
public final class SetupTest {
    private static final int BAD = -1, STATE = -2, FULL = -3;
    private static final Check check = new Check();

    public static void main(String[] args) {
        newObject();
        sites();
        sitesOnceInUse();
        things();
        transactions();
        homesAndSitesFollowN();
        check.end();
    }

    private static void newObject() {
        FarStore x = new FarStore();
        int[] due = {3, 1, 0, 0, 0, 0, 0, 0, 0, 0};
        for (int what = 0; what < due.length; what++) {
            check.due("new: count(" + what + ")", x.count(what), due[what]);
        }
        check.due("new: calm()", x.calm(), 1);
        check.due("new: told(0, 0)", x.told(0, 0), BAD);
        check.due("new: locked(0, 0)", x.locked(0, 0), BAD);
        check.due("new: message(0, 0)", x.message(0, 0), BAD);
        check.due("new: all(500)", x.all(500), 0);
        check.due("new: latest(0, 0)", x.latest(0, 0), 0);
        for (int s = 0; s < 3; s++) {
            for (int of = 0; of < 3; of++) {
                check.due("new: had(" + s + ", " + of + ")", x.had(s, of), 0);
            }
        }
        check.due("new: had(3, 0)", x.had(3, 0), BAD);
        check.due("new: had(0, 3)", x.had(0, 3), BAD);
    }

    private static void sites() {
        for (int n = -1; n <= 6; n++) {
            for (int f = -1; f <= 6; f++) {
                FarStore x = new FarStore();
                boolean fits = n >= 2 && n <= 4 && f >= 0 && f < n;
                String call = "sites(" + n + ", " + f + ")";
                check.due(call, x.sites(n, f), fits ? 1 : BAD);
                check.due(call + ": count(0)", x.count(0), fits ? n : 3);
                check.due(call + ": count(1)", x.count(1), fits ? f : 1);
            }
        }
        FarStore x = new FarStore();
        int[] far = {Integer.MIN_VALUE, Integer.MAX_VALUE};
        for (int a : far) {
            check.due("sites(far, 0)", x.sites(a, 0), BAD);
            check.due("sites(3, far)", x.sites(3, a), BAD);
            check.due("sites(far, far)", x.sites(a, a), BAD);
        }
        check.due("sites(4, 3)", x.sites(4, 3), 1);
        check.due("sites(2, 0), again", x.sites(2, 0), 1);
        check.due("count(0)", x.count(0), 2);
        check.due("count(1)", x.count(1), 0);
    }

    private static void sitesOnceInUse() {
        FarStore x = new FarStore();
        check.due("thing(9, false)", x.thing(9, false), BAD);
        check.due("begin(9)", x.begin(9), BAD);
        check.due("sites after what was refused", x.sites(3, 2), 1);
        x.thing(0, false);
        check.due("sites with a thing", x.sites(2, 1), STATE);
        check.due("BAD comes ahead of STATE", x.sites(5, 1), BAD);
        check.due("n is as it was", x.count(0), 3);
        check.due("F is as it was", x.count(1), 2);
        FarStore y = new FarStore();
        y.begin(0);
        check.due("sites with a transaction", y.sites(2, 0), STATE);
        y.abort(0);
        check.due("sites with an aborted one", y.sites(2, 0), STATE);
        check.due("n is as it was", y.count(0), 3);
        check.due("F is as it was", y.count(1), 1);
    }

    private static void things() {
        FarStore x = new FarStore();
        int[] none = {-1, 3, 4, Integer.MIN_VALUE, Integer.MAX_VALUE};
        for (int home : none) {
            check.due("thing(" + home + ", ..)", x.thing(home, true), BAD);
        }
        check.due("count(2)", x.count(2), 0);
        for (int i = 0; i < 12; i++) {
            check.due("thing " + i, x.thing(i % 3, i % 2 == 1), i);
            check.due("count(2)", x.count(2), i + 1);
        }
        check.due("thing 12", x.thing(0, false), FULL);
        check.due("a set as thing 12", x.thing(2, true), FULL);
        check.due("BAD comes ahead of FULL", x.thing(3, false), BAD);
        check.due("count(2)", x.count(2), 12);
        x.begin(0);
        check.due("thing 11 is a set", x.add(0, 11, 7, 1), 1);
        check.due("thing 10 is plain", x.write(0, 10, 1), 1);
        check.due("there is no thing 12", x.write(0, 12, 1), BAD);
    }

    private static void transactions() {
        FarStore x = new FarStore();
        int[] none = {-1, 3, 4, Integer.MIN_VALUE, Integer.MAX_VALUE};
        for (int site : none) {
            check.due("begin(" + site + ")", x.begin(site), BAD);
        }
        check.due("count(3)", x.count(3), 0);
        for (int i = 0; i < 150; i++) {
            check.due("begin " + i, x.begin(i % 3), i);
        }
        check.due("begin 150", x.begin(0), FULL);
        check.due("BAD comes ahead of FULL", x.begin(3), BAD);
        check.due("count(3)", x.count(3), 150);
        check.due("told(149, 1)", x.told(149, 1), 2);
        check.due("told(149, 0)", x.told(149, 0), 0);
        check.due("told(150, 0)", x.told(150, 0), BAD);
    }

    private static void homesAndSitesFollowN() {
        for (int n = 2; n <= 4; n++) {
            FarStore x = new FarStore();
            x.sites(n, 0);
            check.due("the last home", x.thing(n - 1, false), 0);
            check.due("past the last home", x.thing(n, false), BAD);
            check.due("the last site", x.begin(n - 1), 0);
            check.due("past the last site", x.begin(n), BAD);
            x.write(0, 0, 1);
            check.due("commit", x.commit(0), 2);
            check.due("a SEND to each other site", x.count(4), n - 1);
        }
    }
}
