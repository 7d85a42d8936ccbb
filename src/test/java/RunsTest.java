import java.util.Arrays;
import java.util.Random;

/** Runs of 512 calls of all kinds, right and wrong, each answer compared with the model's. Arguments: seed, runs. */
public final class RunsTest {
    private static final int[] OFTEN = {1, 16, 3, 1, 12, 2, 3, 3, 4, 8, 6, 6, 2, 4, 2, 2};
    private static final long[] EXTREMES = {Integer.MIN_VALUE, Integer.MAX_VALUE, -1, 0, 1, 6, 7, 30, 31, 1000, 1001,
        -1000, -1001, 1000000, 1000001, -1000000, -1000001};
    private static final Due due = new Due();

    public static void main(String[] args) {
        long seed = args.length > 0 ? Long.parseLong(args[0]) : 1;
        int runs = args.length > 1 ? Integer.parseInt(args[1]) : 24;
        for (int run = 0; run < runs; run++) {
            Random random = new Random(seed * 1000003 + run);
            int most = new int[] {1, 3, 100, 1000000}[run % 4];
            play(new SpectrumDesk(), new Model(), random, most, "run " + run);
        }
        due.end();
    }

    private static void play(SpectrumDesk desk, Model model, Random random, int most, String run) {
        for (int call = 0; call < 512; call++) {
            int op = call == 0 ? 0 : pick(random);
            long[] a = arguments(op, model.rows(), random, most);
            String name = run + ", call " + call + ": " + Calls.told(op, a);
            due.same(name, Calls.answer(desk, op, a), model.answer(op, a));
        }
    }

    private static int pick(Random random) {
        int at = random.nextInt(Arrays.stream(OFTEN).sum());
        int op = 0;
        while (at >= OFTEN[op]) {
            at -= OFTEN[op++];
        }
        return op;
    }

    private static long[] arguments(int op, int n, Random random, int most) {
        long[] a = new long[Calls.MOST_ARGUMENTS];
        int dataMost = Math.min(most, random.nextInt(40) == 0 ? 1000 : 5);
        for (int i = 0; i < 6; i++) {
            a[i] = op == 4 ? random.nextInt(2 * dataMost + 1) - dataMost : random.nextInt(n);
        }
        switch (op) {
            case 0: a[0] = 1 + random.nextInt(6); break;
            case 1: a[2] = random.nextInt(2 * most + 1) - most; break;
            case 3: a[0] = random.nextInt(2); break;
            case 6: a[0] = random.nextInt(2 * most + 1) - most; break;
            case 7: a[0] = random.nextInt(n + 1); break;
            case 8: a[0] = random.nextInt(12); break;
            case 9: fraction(a, n, random, most); break;
            case 10: a[1] = random.nextInt(31); break;
            default: break;
        }
        if (random.nextInt(12) == 0) {
            int at = random.nextInt(Math.max(1, Calls.ARGUMENTS[op]));
            a[at] = EXTREMES[random.nextInt(EXTREMES.length)];
        }
        return a;
    }

    private static void fraction(long[] a, int n, Random random, int most) {
        a[0] = 1 + random.nextInt(n);
        a[3] = random.nextInt(3);
        switch (random.nextInt(4)) {
            case 0:
                a[1] = random.nextInt(4 * most + 1) - 2 * most;
                a[2] = 1;
                break;
            case 1:
                a[1] = random.nextLong();
                a[2] = random.nextLong() >>> 1 | 1;
                break;
            case 2:
                a[2] = 1 + (random.nextLong() >>> 24);
                a[1] = a[2] * (random.nextInt(4 * most + 1) - 2 * most) + random.nextInt(3) - 1;
                break;
            default:
                a[1] = random.nextInt(9) == 0 ? Long.MIN_VALUE : random.nextInt(200) - 100;
                a[2] = random.nextInt(9) == 0 ? Long.MAX_VALUE : 1 + random.nextInt(60);
                break;
        }
    }
}
