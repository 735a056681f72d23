import java.util.Random;

/** Random runs on the bench, compared with the oracle (promises 2 to 15, 24 and 30). */
public final class BenchFuzzTest {
    private static final int RUNS = 600;

    public static void main(String[] args) {
        int runs = args.length > 0 ? Integer.parseInt(args[0]) : RUNS;
        Check c = new Check("BenchFuzzTest");
        for (int seed = 0; seed < runs; seed++) {
            run(c, seed);
        }
        c.end();
    }

    private static void run(Check c, int seed) {
        Random r = new Random(seed);
        Both b = new Both(c, "seed " + seed);
        b.begins(r.nextInt(4));
        // Some runs keep to few types that are often made equal, others fill the bench.
        int limit = 4 + r.nextInt(70);
        int length = 40 + r.nextInt(400);
        int deep = r.nextInt(6);
        while (b.calls < length) {
            step(b, r, limit, deep);
        }
        for (int t = 0; t < b.o.bench(0) && b.calls < 500; t++) {
            b.shape(t, 0);
            b.measure(t);
        }
        b.digest();
    }

    private static int pick(Both b, Random r) {
        int n = b.o.bench(0);
        if (r.nextInt(60) == 0) {
            return new int[] {-1, n, n + 1, Integer.MIN_VALUE, Integer.MAX_VALUE}[r.nextInt(5)];
        }
        return n == 0 ? 0 : r.nextInt(n);
    }

    private static void step(Both b, Random r, int limit, int deep) {
        int choice = r.nextInt(100);
        if (choice < 30) {
            if (b.o.bench(0) < limit) {
                int[] heads = {0, 1, 2, 2, 2, 2, 3, 3, 4, 5, 6, 7, 7, 8, 8, 8};
                int head = r.nextInt(80) == 0 ? r.nextInt(12) - 1 : heads[r.nextInt(heads.length)];
                b.made(head, pick(b, r), pick(b, r));
            } else {
                b.classes();
            }
        } else if (choice < 34) {
            b.opens();
        } else if (choice < 34 + 6 - deep) {
            b.closes();
        } else if (choice < 46) {
            b.equates(pick(b, r), pick(b, r));
        } else if (choice < 60) {
            b.unites(pick(b, r), pick(b, r));
        } else if (choice < 66) {
            b.would(pick(b, r), pick(b, r));
        } else if (choice < 72) {
            b.same(pick(b, r), pick(b, r));
        } else if (choice < 80) {
            b.shape(pick(b, r), r.nextInt(8) - 1);
        } else if (choice < 82) {
            b.classes();
        } else if (choice < 85) {
            b.measure(pick(b, r));
        } else if (choice < 88) {
            b.reach(pick(b, r));
        } else if (choice < 91) {
            b.known(pick(b, r));
        } else if (choice < 96) {
            b.comes(r.nextInt(6) - (r.nextInt(10) == 0 ? 1 : 0), pick(b, r));
        } else if (choice < 98) {
            b.bench(r.nextInt(5) - 1);
        } else if (choice < 99) {
            b.told(r.nextInt(8) - 1);
        } else {
            b.digest();
        }
    }
}
