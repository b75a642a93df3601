import java.util.Random;

/**
 * LANGUAGE.md, rule 7: no call throws or fails to end, for any arguments in any state; and rule 13: the same calls
 * always give the same answers. Of an object's first 512 calls the answers are looked at; the calls after them, whose
 * answers are free, have to come back all the same.
 */
public final class AnyCallTest {
    private static final int RUNS = 300, CALLS = 512, CALLS_TOO_MANY = 3000;
    private static final int NONE = -4;
    private static final int[] ENDS = {Integer.MIN_VALUE, Integer.MIN_VALUE + 1, -5, -4, -3, -2, -1, 8, 9, 12, 13, 149, 150,
        151, 500, 501, 512, 1 << 16, 1 << 30, Integer.MAX_VALUE - 1, Integer.MAX_VALUE};
    private static final int KINDS = 21;
    private static final Check check = new Check();

    public static void main(String[] args) {
        for (int seed = 0; seed < RUNS; seed++) {
            // How seldom an argument is one that nobody would give: always, often, seldom.
            anyCalls(seed, new int[] {1, 4, 30}[seed % 3]);
        }
        check.end();
    }

    private static void anyCalls(int seed, int seldom) {
        Random chance = new Random(seed);
        FarStore x = new FarStore(), twin = new FarStore();
        for (int i = 0; i < CALLS + CALLS_TOO_MANY; i++) {
            int kind = chance.nextInt(KINDS);
            int[] a = new int[4];
            for (int k = 0; k < 4; k++) {
                a[k] = number(chance, seldom);
            }
            long v = chance.nextLong();
            String call = "seed " + seed + ", call " + i + ", kind " + kind;
            long got = answer(call, x, kind, a, v);
            if (i >= CALLS) {
                continue;
            }
            check.sentence(0, "Answers: BAD -1 .. NONE -4");
            check.holds(call + " answered " + got, answersLong(kind) || got >= NONE);
            check.sentence(0, "the same calls give the same answers");
            check.due(call, answer(call, twin, kind, a, v), got);
        }
    }

    private static int number(Random chance, int seldom) {
        if (chance.nextInt(seldom) == 0) {
            return chance.nextBoolean() ? ENDS[chance.nextInt(ENDS.length)] : chance.nextInt();
        }
        return chance.nextInt(chance.nextInt(4) == 0 ? 30 : 4);
    }

    private static long answer(String call, FarStore x, int kind, int[] a, long v) {
        try {
            return made(x, kind, a, v);
        } catch (RuntimeException | StackOverflowError e) {
            check.sentence(0, "no call throws");
            check.holds(call + " threw " + e, false);
            return 0;
        }
    }

    private static boolean answersLong(int kind) {
        return kind == 3 || kind == 4 || kind == 15 || kind == 16;
    }

    private static long made(FarStore x, int kind, int[] a, long v) {
        return switch (kind) {
            case 0 -> x.sites(a[0], a[1]);
            case 1 -> x.thing(a[0], v < 0);
            case 2 -> x.begin(a[0]);
            case 3 -> x.read(a[0], a[1]);
            case 4 -> x.counted(a[0], a[1], a[2]);
            case 5 -> x.write(a[0], a[1], v);
            case 6 -> x.add(a[0], a[1], a[2], a[3]);
            case 7 -> x.commit(a[0]);
            case 8 -> x.abort(a[0]);
            case 9 -> x.deliver(a[0]);
            case 10 -> x.all(a[0]);
            case 11 -> x.message(a[0], a[1]);
            case 12 -> x.told(a[0], a[1]);
            case 13 -> x.start(a[0], a[1]);
            case 14 -> x.had(a[0], a[1]);
            case 15 -> x.latest(a[0], a[1]);
            case 16 -> x.sum(a[0], a[1], a[2]);
            case 17 -> x.locked(a[0], a[1]);
            case 18 -> x.sees(a[0], a[1]);
            case 19 -> x.calm();
            default -> x.count(a[0]);
        };
    }
}
