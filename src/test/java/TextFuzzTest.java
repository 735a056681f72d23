import java.util.ArrayList;
import java.util.List;
import java.util.Random;

/** Random declarations, bodies and runs, compared with the oracle (promises 14, 16 to 30). */
public final class TextFuzzTest {
    private static final int RUNS = 3000;

    public static void main(String[] args) {
        int runs = args.length > 0 ? Integer.parseInt(args[0]) : RUNS;
        int first = args.length > 1 ? Integer.parseInt(args[1]) : 0;
        Check c = new Check("TextFuzzTest");
        for (int seed = first; seed < first + runs; seed++) {
            run(c, seed);
        }
        c.end();
    }

    private static void run(Check c, int seed) {
        Random r = new Random(seed);
        Both b = new Both(c, "seed " + seed);
        ExpressionMaker maker = new ExpressionMaker(r, new int[] {0, 0, 40, 15}[r.nextInt(4)]);
        declare(b, maker, r);
        for (int tries = 0; tries < 30 && b.calls < 380; tries++) {
            int f = maker.functions.isEmpty() ? -1 : r.nextInt(maker.functions.size());
            if (f >= 0 && (tries < maker.functions.size() || r.nextInt(2) == 0)) {
                body(b, maker, r, tries < maker.functions.size() ? tries : f);
            } else {
                expression(b, maker, r);
            }
        }
        b.digest();
    }

    private static void declare(Both b, ExpressionMaker maker, Random r) {
        int set = r.nextInt(6);
        b.begins(set <= 3 ? set : 0);
        String[] made = {"", "i,:i d0i,:b d0b,d0u,d0u,:u d0u,d0v,:puv d0puv,:u", ":puu", ":i i,d0u,:piu", "", ""};
        for (String s : made[set].split(" ")) {
            if (!s.isEmpty()) {
                maker.constructors.add(ExpressionMaker.parse(0, s));
            }
        }
        String[] called = {"", "d0u,:u", "d0puv,u,:v d0puv,:d0pvu d0puv,d0pvw,:d0puw", "d0piu,:i d0u,d0u,:d0u", "", ""};
        for (String s : called[set].split(" ")) {
            if (!s.isEmpty()) {
                maker.functions.add(ExpressionMaker.parse(0, s));
            }
        }
        if (maker.functions.isEmpty()) {
            int n = r.nextInt(7) == 0 ? 12 : r.nextInt(5);
            for (int k = 0; k < n; k++) {
                int family = r.nextInt(4) == 0 ? r.nextInt(4) : 0;
                ExpressionMaker.Sig sig = maker.randomSig(family);
                b.write(mutated(sig.written(), r, 30));
                if (b.constructs(family) >= 0) {
                    // What the mutation left must be read again, as it need not be what was meant.
                    maker.constructors.add(ExpressionMaker.parse(family, lastSignature(b)));
                }
                b.constructor(k, r.nextInt(3));
            }
        }
        int n = r.nextInt(8) == 0 ? 7 : r.nextInt(4);
        for (int f = 0; f < n; f++) {
            b.write(mutated(maker.randomSig(0).written(), r, 30));
            if (b.signs() >= 0) {
                maker.functions.add(ExpressionMaker.parse(0, lastSignature(b)));
            }
            b.function(f, r.nextInt(3));
        }
        b.clear();
    }

    private static String lastSignature(Both b) {
        return b.o.latestSignature();
    }

    private static void body(Both b, ExpressionMaker maker, Random r, int f) {
        ExpressionMaker.Sig sig = maker.instance(maker.functions.get(f), true);
        List<ExpressionMaker.Ty> scope = new ArrayList<>(sig.parts());
        b.write(shortened(() -> maker.make(sig.last(), scope, 4 + r.nextInt(40)), r));
        b.bodies(f);
        b.why();
        b.function(f, 2);
    }

    private static void expression(Both b, ExpressionMaker maker, Random r) {
        ExpressionMaker.Ty goal = maker.randomType("", 2);
        b.write(shortened(() -> maker.make(goal, new ArrayList<>(), 4 + r.nextInt(40)), r));
        if (b.runs() >= 0) {
            b.ran(r.nextInt(4));
            b.written();
        }
        b.why();
    }

    private interface Source {
        String next();
    }

    private static String shortened(Source source, Random r) {
        String s = source.next();
        for (int n = 0; n < 20 && s.length() > 100; n++) {
            s = source.next();
        }
        return mutated(s.substring(0, Math.min(102, s.length())), r, 12);
    }

    /** Changes a byte once in so many times. */
    private static String mutated(String s, Random r, int rarely) {
        if (r.nextInt(rarely) > 0 || s.isEmpty()) {
            return s;
        }
        int at = r.nextInt(s.length());
        String signs = "0123456789TFab+-<=?PLRCGM{},:iduvwpd";
        char c = r.nextInt(10) == 0 ? (char) r.nextInt(128) : signs.charAt(r.nextInt(signs.length()));
        switch (r.nextInt(4)) {
            case 0: return s.substring(0, at) + s.substring(at + 1);
            case 1: return s.substring(0, at) + c + s.substring(at);
            case 2: return s.substring(0, at);
            default: return s.substring(0, at) + c + s.substring(at + 1);
        }
    }
}
