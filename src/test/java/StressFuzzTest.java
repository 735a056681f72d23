import java.util.Random;

/**
 * Random expressions over declarations that take nearly anything, so that even long ones pass far into the check:
 * they make as many types as a text can, nest as deeply as it can, and run into the limits of steps and nesting.
 */
public final class StressFuzzTest {
    private static final int RUNS = 1200;
    private static final String[] MADE = {":u", "u,v,:puv", "d0u,d0v,:puv", "d0puv,d0pvw,:puw", "u,v,w,:pupvw", "d0u,:u"};
    private static final String[] CALLED = {":u", "u,:v", "u,v,:w", "puv,:w", "d0puv,d0pvw,:d0puw", "i,:i"};

    public static void main(String[] args) {
        int runs = args.length > 0 ? Integer.parseInt(args[0]) : RUNS;
        Check c = new Check("StressFuzzTest");
        for (int seed = 0; seed < runs; seed++) {
            run(c, seed);
        }
        c.end();
    }

    private static void run(Check c, int seed) {
        Random r = new Random(seed);
        Both b = new Both(c, "seed " + seed);
        for (String s : MADE) {
            b.write(s);
            b.constructs(0);
        }
        for (String s : CALLED) {
            b.write(s);
            b.signs();
        }
        String[] loops = {"?<a1aG5-a1", "?<a1a+G5-a1G5-a2", "G5G5a", "+aG5a", "?=a0a+1G5-a1", "LP+aaG0"};
        b.write(loops[r.nextInt(loops.length)]);
        b.bodies(5);
        if (r.nextBoolean()) {
            b.write("G1b");
            b.bodies(2);
        }
        String[] signs = {"LRP?GGC", "LR", "LRG", "+-<=?G", "PLR", "G", "C", "?PLRG"};
        while (b.calls < 400) {
            String s = text(r, signs[r.nextInt(signs.length)], 1 + r.nextInt(100));
            b.write(s);
            if (r.nextInt(5) == 0) {
                b.bodies(r.nextInt(6));
            } else if (b.runs() >= 0) {
                b.written();
            }
            b.why();
        }
        b.digest();
    }

    /** An expression of so many bytes at most, or a few more. */
    private static String text(Random r, String signs, int length) {
        StringBuilder out = new StringBuilder();
        int open = 1;
        while (open > 0) {
            open--;
            if (out.length() + 2 * open + 2 >= length) {
                out.append(r.nextInt(4) == 0 ? "7" : r.nextInt(4) == 0 ? "C0" : "G0");
                continue;
            }
            char c = signs.charAt(r.nextInt(signs.length()));
            out.append(c);
            if (c == 'C' || c == 'G') {
                int k = r.nextInt(6);
                out.append(k);
                open += commas((c == 'C' ? MADE : CALLED)[k]);
            } else {
                open += c == 'L' || c == 'R' ? 1 : c == '?' ? 3 : 2;
            }
        }
        return out.toString();
    }

    private static int commas(String s) {
        return s.length() - s.replace(",", "").length();
    }
}
