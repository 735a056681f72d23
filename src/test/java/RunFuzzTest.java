import java.util.ArrayList;
import java.util.Random;

/**
 * Programs that compute: prepared sets and recursive functions that match, called in random expressions of the right
 * type, compared with the oracle (promises 21, 22, 26 to 28 and 30). Most runs end with a value, after many matches.
 */
public final class RunFuzzTest {
    private static final int RUNS = 600;
    private static final int TRIES = 16;

    /** A prepared set, what it declares (or, for set 0, the constructors to declare), functions with bodies, and types to run. */
    private record Source(int set, String constructors, String prepared, String functions, String goals) {
    }

    private static final Source[] SOURCES = {
        // Terms: their evaluator, their size, a copy with both sides of an if exchanged, a pair exchanged.
        new Source(1, "i,:i d0i,:b d0b,d0u,d0u,:u d0u,d0v,:puv d0puv,:u", "d0u,:u",
            "d0u,:i Ma{011+1G1b2+1+G1b+G1cG1d3+1+G1bG1c4+1G1b} d0u,:d0u Ma{0C0b1C1G2b2C2bG2dG2c3C3bG2c4C4b} "
                + "d0puv,:d0pvu Ma{2C2bG3cG3d3C3cb4G3a}",
            "i b pii pbi ppiib d0i d0b d0pib d0pbi"),
        new Source(1, "i,:i d0i,:b d0b,d0u,d0u,:u d0u,d0v,:puv d0puv,:u", "d0u,:u",
            "d0u,d0v,:d0puv C3ab d0puv,:u G0C4a d0b,d0i,d0i,:i ?G0aG0bG0c", "i b pii pbi ppiib d0i d0b d0pib"),
        // Proofs that two types are equal: swapped, chained, used.
        new Source(2, ":puu", "d0puv,u,:v d0puv,:d0pvu d0puv,d0pvw,:d0puw",
            "d0puv,d0puw,v,:w Ma{0Mb{0c}} d0puv,puw,:pvw Ma{0b}", "i b pii d0pii d0pbb d0ppibpib"),
        // Lists of a known length: a sum, a number added to each, two lists compared, made a pair, made of a number.
        new Source(3, ":i i,d0u,:piu", "d0piu,:i d0u,d0u,:d0u",
            "d0u,:i Ma{001+bG2c} d0u,i,:d0u Ma{0C01C1+cbG3db} d0u,d0u,:b Ma{0T1Mb{1?=ceG4dfF}}",
            "i b pib d0i d0pii d0pipii d0pipipii"),
        new Source(3, ":i i,d0u,:piu", "d0piu,:i d0u,d0u,:d0u",
            "d0u,i,:i Ma{0b1G2d+bc} d0u,d0u,:pd0ud0u Ma{0PaC01PbMb{1a}} i,i,:i ?<a1b+1G4-a1+bb i,:d0pipii C1aC1+a1C0",
            "i pii d0pii d0pipii pd0id0i"),
        // Lists of any length and trees, made by loops that can nest too deep or take too many steps.
        new Source(0, ":u u,d0u,:u d0u,u,d0u,:u", "", "d0i,:i Ma{001+bG0c2+c+G0bG0d} d0u,d0u,:d0u Ma{0b1C1cG1db2C2G1cbde} "
            + "i,:d0i ?<a1C0C1aG2-a1 i,:i ?<a2a+G3-a1G3-a2 i,:d0i ?<a1C0C2G4-a1aG4-a1 d0u,u,:u Ma{0b1c2G5eb}",
            "i b pii d0i d0b d0pii"),
    };

    public static void main(String[] args) {
        int runs = args.length > 0 ? Integer.parseInt(args[0]) : RUNS;
        Check c = new Check("RunFuzzTest");
        for (int seed = 0; seed < runs; seed++) {
            run(c, seed);
        }
        c.end();
    }

    private static void run(Check c, int seed) {
        Random r = new Random(seed);
        Source source = SOURCES[r.nextInt(SOURCES.length)];
        ExpressionMaker maker = makerFor(source, r);
        Both b = new Both(c, "seed " + seed);
        declare(b, source);
        Both guide = new Both(c, "guide " + seed);
        declare(guide, source);
        String[] goals = source.goals.split(" ");
        while (b.calls < 330) {
            ExpressionMaker.Ty goal = ExpressionMaker.parse(0, ":" + goals[r.nextInt(goals.length)]).last();
            b.write(expression(guide.o, maker, r, goal));
            if (b.runs() >= 0) {
                b.ran(0);
                b.ran(1);
                b.written();
            }
            b.why();
        }
        b.digest();
    }

    private static ExpressionMaker makerFor(Source source, Random r) {
        ExpressionMaker maker = new ExpressionMaker(r, r.nextInt(4) == 0 ? 60 : 0);
        maker.calling = r.nextInt(8) > 0;
        for (String s : source.constructors.split(" ")) {
            maker.constructors.add(ExpressionMaker.parse(0, s));
        }
        String[] more = source.functions.split(" ");
        for (String s : source.prepared.split(" ")) {
            if (!s.isEmpty()) {
                maker.functions.add(ExpressionMaker.parse(0, s));
            }
        }
        for (int n = 0; n + 1 < more.length; n += 2) {
            maker.functions.add(ExpressionMaker.parse(0, more[n]));
        }
        return maker;
    }

    private static void declare(Both b, Source source) {
        b.begins(source.set);
        if (source.set == 0) {
            for (String s : source.constructors.split(" ")) {
                b.write(s);
                b.constructs(0);
            }
        }
        String[] more = source.functions.split(" ");
        for (int n = 0; n + 1 < more.length; n += 2) {
            b.write(more[n]);
            int f = b.signs();
            b.write(more[n + 1]);
            b.bodies(f);
        }
    }

    /** Mostly, of some expressions the one that takes the most steps, which the guide counts. */
    private static String expression(Oracle guide, ExpressionMaker maker, Random r, ExpressionMaker.Ty goal) {
        String best = "";
        int most = Integer.MIN_VALUE;
        int tries = r.nextInt(6) == 0 ? 1 : TRIES;
        for (int n = 0; n < tries; n++) {
            String s = maker.make(goal, new ArrayList<>(), 5 + r.nextInt(40));
            s = s.substring(0, Math.min(100, s.length()));
            int steps = stepsOf(guide, s);
            if (steps > most) {
                most = steps;
                best = s;
            }
        }
        return best;
    }

    private static int stepsOf(Oracle guide, String expression) {
        for (int i = 0; i < expression.length(); i++) {
            guide.type(expression.charAt(i));
        }
        int steps = guide.runs();
        // A run that is spent or too deep has taken steps as well.
        return steps == BranchTypes.SPENT || steps == BranchTypes.DEEP ? 100 : steps;
    }
}
