/** Promises 2 to 15: the types of the bench, with the edges that the document names and wrong inputs. */
public final class BenchTest {
    private static final int NONE = BranchTypes.NONE, BAD = BranchTypes.BAD, NO = BranchTypes.NO, FULL = BranchTypes.FULL;
    private static final int CLASH = BranchTypes.CLASH, FIXED = BranchTypes.FIXED;
    private static final int INT = 0, BOOL = 1, PAIR = 2, FAMILY = 3, RIGID = 7, FLEXIBLE = 8;

    public static void main(String[] args) {
        Check c = new Check("BenchTest");
        made(c);
        madeInAClass(c);
        madeFull(c);
        opensAndCloses(c);
        closesUndoes(c);
        equates(c);
        equatesCongruence(c);
        unites(c);
        unitesProtects(c);
        clashBeforeFixed(c);
        would(c);
        same(c);
        shape(c);
        measure(c);
        reach(c);
        known(c);
        comes(c);
        comesOnAFullBench(c);
        bench(c);
        c.end();
    }

    private static void made(Check c) {
        BranchTypes x = new BranchTypes();
        c.due("head 9", x.made(9, 0, 0), BAD);
        c.due("head -1", x.made(-1, 0, 0), BAD);
        c.due("pair of nothing", x.made(PAIR, 0, 0), BAD);
        c.due("family of nothing", x.made(FAMILY, 0, 0), BAD);
        c.due("int", x.made(INT, -7, 99), 0);
        c.due("int again", x.made(INT, 5, 5), 0);
        c.due("bool", x.made(BOOL, 0, 0), 1);
        c.due("rigid", x.made(RIGID, -1, -1), 2);
        c.due("another rigid", x.made(RIGID, 0, 0), 3);
        c.due("flexible", x.made(FLEXIBLE, -1, -1), 4);
        c.due("another flexible", x.made(FLEXIBLE, 0, 0), 5);
        c.due("pair", x.made(PAIR, 2, 3), 6);
        c.due("pair the other way", x.made(PAIR, 3, 2), 7);
        c.due("pair again", x.made(PAIR, 2, 3), 6);
        c.due("pair without second", x.made(PAIR, 2, 8), BAD);
        c.due("pair without first", x.made(PAIR, -1, 2), BAD);
        c.due("family, second ignored", x.made(FAMILY, 0, 99), 8);
        c.due("family again", x.made(FAMILY, 0, -1), 8);
        c.due("other family", x.made(FAMILY + 3, 0, 0), 9);
        c.due("family of a family", x.made(FAMILY, 9, 0), 10);
        c.due("family without index", x.made(FAMILY, 11, 0), BAD);
        c.due("bads", x.told(0), 7);
        c.due("types", x.bench(0), 11);
    }

    /** A type whose arguments are in the classes of another one's arguments comes into its class. */
    private static void madeInAClass(Check c) {
        BranchTypes x = new BranchTypes();
        x.made(INT, 0, 0);
        x.made(FLEXIBLE, 0, 0);
        x.made(FAMILY, 0, 0);
        x.made(PAIR, 0, 2);
        x.unites(0, 1);
        c.due("new family", x.made(FAMILY, 1, 0), 4);
        c.due("in its class", x.same(4, 2), 1);
        c.due("new pair", x.made(PAIR, 1, 4), 5);
        c.due("in its class too", x.same(3, 5), 1);
        c.due("classes", x.classes(), 3);
        c.due("representative", x.shape(5, 0), 3);
    }

    private static void madeFull(Check c) {
        BranchTypes x = new BranchTypes();
        x.made(INT, 0, 0);
        for (int n = 1; n < 60; n++) {
            c.due("type " + n, x.made(n % 2 == 0 ? RIGID : FLEXIBLE, 0, 0), n);
        }
        c.due("one more", x.made(RIGID, 0, 0), FULL);
        c.due("bool", x.made(BOOL, 0, 0), FULL);
        c.due("pair", x.made(PAIR, 58, 59), FULL);
        c.due("what is there", x.made(INT, 0, 0), 0);
        c.due("bad before full", x.made(PAIR, 60, 0), BAD);
        c.due("fulls", x.told(2), 3);
        c.due("types", x.bench(0), 60);
    }

    private static void opensAndCloses(Check c) {
        BranchTypes x = new BranchTypes();
        c.due("none open", x.closes(), NO);
        for (int n = 1; n <= 8; n++) {
            c.due("open " + n, x.opens(), n);
            x.made(RIGID, 0, 0);
        }
        c.due("a ninth", x.opens(), FULL);
        c.due("depth", x.bench(1), 8);
        x.made(RIGID, 0, 0);
        c.due("closes two", x.closes(), 2);
        for (int n = 7; n >= 1; n--) {
            c.due("closes one", x.closes(), 1);
        }
        c.due("none open again", x.closes(), NO);
        c.due("no types", x.bench(0), 0);
        c.due("nos", x.told(1), 2);
        c.due("fulls", x.told(2), 1);
        c.due("numbers are used again", x.made(BOOL, 0, 0), 0);
    }

    private static void closesUndoes(Check c) {
        BranchTypes x = new BranchTypes();
        int u = x.made(RIGID, 0, 0);
        int v = x.made(RIGID, 0, 0);
        int f = x.made(FLEXIBLE, 0, 0);
        x.unites(f, u);
        x.opens();
        c.due("assumes", x.equates(u, v), 1);
        x.opens();
        int i = x.made(INT, 0, 0);
        c.due("assumes more", x.equates(i, v), 1);
        c.due("the head", x.shape(f, 1), INT);
        c.due("closes", x.closes(), 1);
        c.due("the head before", x.shape(f, 1), RIGID);
        c.due("still equal", x.same(f, v), 1);
        c.due("closes nothing", x.closes(), 0);
        c.due("equal no more", x.same(f, v), 0);
        c.due("what was united before", x.same(f, u), 1);
        c.due("classes", x.classes(), 2);
    }

    private static void equates(Check c) {
        BranchTypes x = new BranchTypes();
        int i = x.made(INT, 0, 0);
        int b = x.made(BOOL, 0, 0);
        int u = x.made(RIGID, 0, 0);
        int f = x.made(FLEXIBLE, 0, 0);
        int p = x.made(PAIR, u, f);
        int q = x.made(PAIR, u, i);
        c.due("no branch", x.equates(i, u), NO);
        c.due("bad before no", x.equates(i, 6), BAD);
        c.due("bad first", x.equates(-1, i), BAD);
        x.opens();
        c.due("flexible", x.equates(f, i), NO);
        c.due("the second one", x.equates(i, f), NO);
        c.due("contains flexible", x.equates(p, i), NO);
        c.due("heads", x.equates(i, b), CLASH);
        c.due("contains itself", x.equates(u, q), CLASH);
        c.due("nothing changed", x.classes(), 6);
        c.due("itself", x.equates(u, u), 0);
        c.due("rigid and int", x.equates(u, i), 1);
        c.due("equal already", x.equates(i, u), 0);
        c.due("now a clash", x.equates(u, b), CLASH);
        c.due("nos", x.told(1), 4);
    }

    private static void equatesCongruence(Check c) {
        BranchTypes x = new BranchTypes();
        int u = x.made(RIGID, 0, 0);
        int v = x.made(RIGID, 0, 0);
        int fu = x.made(FAMILY, u, 0);
        int fv = x.made(FAMILY, v, 0);
        int ffu = x.made(FAMILY + 1, fu, 0);
        int ffv = x.made(FAMILY + 1, fv, 0);
        int other = x.made(FAMILY + 2, fv, 0);
        x.opens();
        c.due("upwards", x.equates(u, v), 3);
        c.due("far up", x.same(ffu, ffv), 1);
        c.due("not another family", x.same(ffu, other), 0);
        x.closes();
        x.opens();
        c.due("downwards", x.equates(ffu, ffv), 3);
        c.due("far down", x.same(u, v), 1);
        x.closes();
        x.opens();
        c.due("not another family", x.equates(fu, ffu), CLASH);
        int p = x.made(PAIR, u, fv);
        int q = x.made(PAIR, v, fu);
        c.due("both arguments", x.equates(p, q), 4);
        c.due("crosswise", x.equates(x.made(PAIR, u, v), x.made(PAIR, v, u)), 0);
    }

    private static void unites(Check c) {
        BranchTypes x = new BranchTypes();
        int i = x.made(INT, 0, 0);
        int b = x.made(BOOL, 0, 0);
        int f = x.made(FLEXIBLE, 0, 0);
        int g = x.made(FLEXIBLE, 0, 0);
        int u = x.made(RIGID, 0, 0);
        int v = x.made(RIGID, 0, 0);
        int p = x.made(PAIR, f, u);
        int q = x.made(PAIR, i, g);
        c.due("no such type", x.unites(8, 0), BAD);
        c.due("nor that", x.unites(0, -1), BAD);
        c.due("heads", x.unites(i, b), CLASH);
        c.due("rigid and int", x.unites(u, i), FIXED);
        c.due("two rigid", x.unites(u, v), FIXED);
        c.due("contains itself", x.unites(f, p), CLASH);
        c.due("pairs", x.unites(p, q), 3);
        c.due("first", x.same(f, i), 1);
        c.due("second", x.same(g, u), 1);
        c.due("a rigid through a flexible", x.unites(g, v), FIXED);
        c.due("a rigid and its own", x.unites(g, u), 0);
        c.due("solved", x.unites(f, b), CLASH);
    }

    private static void unitesProtects(Check c) {
        BranchTypes x = new BranchTypes();
        int f = x.made(FLEXIBLE, 0, 0);
        int g = x.made(FLEXIBLE, 0, 0);
        int i = x.made(INT, 0, 0);
        int u = x.made(RIGID, 0, 0);
        int v = x.made(RIGID, 0, 0);
        x.opens();
        int h = x.made(FLEXIBLE, 0, 0);
        int k = x.made(FLEXIBLE, 0, 0);
        int w = x.made(RIGID, 0, 0);
        c.due("outer flexible and int", x.unites(f, i), FIXED);
        c.due("two outer flexible", x.unites(f, g), FIXED);
        c.due("outer flexible and inner rigid", x.unites(f, w), FIXED);
        c.due("outer and inner flexible", x.unites(f, h), 1);
        c.due("which keeps the inner one", x.unites(h, i), FIXED);
        c.due("and from the other one", x.unites(h, g), FIXED);
        c.due("inner flexible and rigid", x.unites(k, w), 1);
        c.due("assumed", x.equates(u, i), 1);
        c.due("a rigid that is int", x.unites(u, i), 0);
        c.due("a rigid and one that is int", x.unites(v, u), FIXED);
        int m = x.made(FLEXIBLE, 0, 0);
        c.due("inner flexible and what is int", x.unites(m, u), 1);
        c.due("its head", x.shape(m, 1), INT);
        x.closes();
        c.due("free again", x.unites(f, g), 1);
        c.due("and int", x.unites(g, i), 1);
        x.opens();
        c.due("a solved one is not protected", x.unites(f, i), 0);
        c.due("but clashes", x.unites(f, x.made(BOOL, 0, 0)), CLASH);
    }

    /** What is found to be protected does not matter if there is a clash elsewhere. */
    private static void clashBeforeFixed(Check c) {
        BranchTypes x = new BranchTypes();
        int i = x.made(INT, 0, 0);
        int b = x.made(BOOL, 0, 0);
        int u = x.made(RIGID, 0, 0);
        int v = x.made(RIGID, 0, 0);
        c.due("fixed then clash", x.unites(x.made(PAIR, u, i), x.made(PAIR, i, b)), CLASH);
        c.due("clash then fixed", x.unites(x.made(PAIR, i, u), x.made(PAIR, b, i)), CLASH);
        c.due("fixed twice", x.unites(x.made(PAIR, u, v), x.made(PAIR, i, i)), FIXED);
        c.due("rigid and what contains it", x.unites(u, x.made(PAIR, u, v)), CLASH);
        c.due("crosswise", x.unites(x.made(PAIR, u, x.made(FAMILY, u, 0)), x.made(PAIR, v, v)), CLASH);
    }

    private static void would(Check c) {
        BranchTypes x = new BranchTypes();
        int i = x.made(INT, 0, 0);
        int f = x.made(FLEXIBLE, 0, 0);
        int u = x.made(RIGID, 0, 0);
        int p = x.made(PAIR, f, i);
        int q = x.made(PAIR, u, x.made(FLEXIBLE, 0, 0));
        long before = x.digest();
        c.due("would be 3", x.would(p, q), 3);
        c.due("would be fixed", x.would(u, i), FIXED);
        c.due("would clash", x.would(p, i), CLASH);
        c.due("nothing changed", x.digest(), before);
        c.due("would be bad", x.would(p, 6), BAD);
        c.due("and bad", x.would(-1, p), BAD);
        c.due("is counted", x.told(0), 2);
        c.due("classes", x.classes(), 6);
        c.due("is 3", x.unites(p, q), 3);
    }

    private static void same(Check c) {
        BranchTypes x = new BranchTypes();
        x.made(FLEXIBLE, 0, 0);
        x.made(FLEXIBLE, 0, 0);
        c.due("itself", x.same(0, 0), 1);
        c.due("another", x.same(0, 1), 0);
        x.unites(0, 1);
        c.due("united", x.same(1, 0), 1);
        c.due("bad", x.same(0, 2), BAD);
        c.due("bad", x.same(-1, 0), BAD);
    }

    private static void shape(Check c) {
        BranchTypes x = new BranchTypes();
        int f = x.made(FLEXIBLE, 0, 0);
        int g = x.made(FLEXIBLE, 0, 0);
        int u = x.made(RIGID, 0, 0);
        int i = x.made(INT, 0, 0);
        int p = x.made(PAIR, u, i);
        int d = x.made(FAMILY + 2, p, 0);
        c.due("own representative", x.shape(g, 0), g);
        x.unites(g, f);
        c.due("lowest flexible", x.shape(g, 0), f);
        c.due("head 8", x.shape(g, 1), FLEXIBLE);
        c.due("no argument", x.shape(g, 2), NONE);
        x.unites(g, u);
        c.due("rigid before flexible", x.shape(f, 0), u);
        c.due("lowest number", x.shape(u, 4), f);
        c.due("three of them", x.shape(u, 5), 3);
        c.due("pair's first", x.shape(p, 2), u);
        c.due("pair's second", x.shape(p, 3), i);
        c.due("family's index", x.shape(d, 2), p);
        c.due("no second", x.shape(d, 3), NONE);
        c.due("head of a family", x.shape(d, 1), FAMILY + 2);
        x.opens();
        x.equates(u, i);
        c.due("int before rigid", x.shape(f, 0), i);
        int q = x.made(PAIR, i, i);
        c.due("lowest pair", x.shape(q, 0), p);
        c.due("its arguments", x.shape(q, 2), u);
        c.due("bad what", x.shape(q, 6), BAD);
        c.due("bad what", x.shape(q, -1), BAD);
        c.due("bad type", x.shape(q + 1, 0), BAD);
        c.due("bad type", x.shape(-1, 0), BAD);
    }

    private static void measure(Check c) {
        BranchTypes x = new BranchTypes();
        int t = x.made(FLEXIBLE, 0, 0);
        c.due("variable", x.measure(t), 1);
        int d = x.made(FAMILY, t, 0);
        c.due("family", x.measure(d), 2);
        int size = 1;
        for (int n = 0; n < 12; n++) {
            t = x.made(PAIR, t, t);
            size = 2 * size + 1;
            c.due("pair " + n, x.measure(t), size);
        }
        t = x.made(PAIR, t, t);
        c.due("too large", x.measure(t), 9999);
        for (int n = 0; n < 40; n++) {
            t = x.made(PAIR, t, t);
        }
        c.due("far too large", x.measure(t), 9999);
        x.unites(0, x.made(INT, 0, 0));
        c.due("solved", x.measure(0), 1);
        c.due("bad", x.measure(60), BAD);
        c.due("bad", x.measure(-1), BAD);
        edgeOfMeasure(c);
    }

    private static void edgeOfMeasure(Check c) {
        BranchTypes x = new BranchTypes();
        int i = x.made(INT, 0, 0);
        int[] full = new int[13];
        full[0] = i;
        for (int n = 1; n < 13; n++) {
            full[n] = x.made(PAIR, full[n - 1], full[n - 1]);
        }
        // 8191 + 1023 + 511 + 255 + 15 and one for each of four pairs: 9999 exactly; then one more.
        int t = x.made(PAIR, full[12], full[9]);
        t = x.made(PAIR, t, full[8]);
        t = x.made(PAIR, t, full[7]);
        c.due("below", x.measure(t), 8191 + 1023 + 511 + 255 + 3);
        t = x.made(PAIR, t, full[3]);
        c.due("at the edge", x.measure(t), 9999);
        c.due("beyond", x.measure(x.made(FAMILY, t, 0)), 9999);
    }

    private static void reach(Check c) {
        BranchTypes x = new BranchTypes();
        int i = x.made(INT, 0, 0);
        int f = x.made(FLEXIBLE, 0, 0);
        c.due("no variable", x.reach(i), 0);
        x.opens();
        int u = x.made(RIGID, 0, 0);
        x.opens();
        int g = x.made(FLEXIBLE, 0, 0);
        int p = x.made(PAIR, f, x.made(FAMILY, g, 0));
        int q = x.made(PAIR, u, i);
        c.due("depth 2", x.reach(p), 2);
        c.due("depth 1", x.reach(q), 1);
        c.due("depth 0", x.reach(f), 0);
        x.unites(g, u);
        c.due("the representative's depth", x.reach(p), 1);
        x.equates(u, i);
        c.due("only its representative counts", x.reach(p), 0);
        c.due("bad", x.reach(7), BAD);
        c.due("bad", x.reach(-1), BAD);
    }

    private static void known(Check c) {
        BranchTypes x = new BranchTypes();
        int f = x.made(FLEXIBLE, 0, 0);
        int u = x.made(RIGID, 0, 0);
        int p = x.made(PAIR, u, x.made(FAMILY, f, 0));
        c.due("rigid", x.known(u), 1);
        c.due("flexible", x.known(f), 0);
        c.due("contains flexible", x.known(p), 0);
        x.unites(f, u);
        c.due("solved", x.known(f), 1);
        c.due("contains it", x.known(p), 1);
        c.due("bad", x.known(4), BAD);
        c.due("bad", x.known(-1), BAD);
    }

    private static void comes(Check c) {
        BranchTypes x = new BranchTypes();
        x.begins(3);
        int i = x.made(INT, 0, 0);
        int b = x.made(BOOL, 0, 0);
        int u = x.made(RIGID, 0, 0);
        int f = x.made(FLEXIBLE, 0, 0);
        int di = x.made(FAMILY, i, 0);
        int dpair = x.made(FAMILY, x.made(PAIR, i, u), 0);
        int dother = x.made(FAMILY, x.made(PAIR, b, u), 0);
        int du = x.made(FAMILY, u, 0);
        int df = x.made(FAMILY, f, 0);
        int e = x.made(FAMILY + 1, i, 0);
        c.due("empty list of int", x.comes(0, di), 1);
        c.due("no list of int", x.comes(1, di), 0);
        c.due("no empty list of a pair", x.comes(0, dpair), 0);
        c.due("list of a pair", x.comes(1, dpair), 1);
        c.due("not of another pair", x.comes(1, dother), 0);
        c.due("either of a rigid", x.comes(0, du) + 2 * x.comes(1, du), 3);
        c.due("not known", x.comes(0, df), NO);
        c.due("another family", x.comes(0, e), NO);
        c.due("no family", x.comes(0, i), NO);
        c.due("a variable", x.comes(0, f), NO);
        c.due("bad before no", x.comes(2, i), BAD);
        c.due("no constructor", x.comes(-1, di), BAD);
        c.due("no type", x.comes(0, 12), BAD);
        long before = x.digest();
        c.due("once more", x.comes(1, du), 1);
        c.due("nothing remains", x.digest(), before);
        x.unites(f, i);
        c.due("known now", x.comes(0, df), 1);
        x.opens();
        x.equates(u, b);
        c.due("the branch counts", x.comes(0, du) + x.comes(1, du), 0);
    }

    private static void comesOnAFullBench(Check c) {
        BranchTypes x = new BranchTypes();
        Check.constructs(x, 2, "pupvw,pd1ud2v,d3w,:pppu");
        c.due("a wrong one", x.told(3), 0);
        c.due("a long one", Check.constructs(x, 2, "d1u,d2v,:pppuvwpd1d2ud3v"), 0);
        for (int n = 1; n <= 8; n++) {
            x.opens();
        }
        int u = x.made(RIGID, 0, 0);
        int d = x.made(FAMILY + 2, u, 0);
        int e = x.made(FAMILY + 2, d, 0);
        while (x.made(RIGID, 0, 0) >= 0) {
            c.due("none removed", x.bench(1), 8);
        }
        c.due("full", x.bench(0), 60);
        long before = x.digest();
        c.due("comes all the same", x.comes(0, d), 1);
        c.due("or not", x.comes(0, e), 0);
        c.due("nothing remains", x.digest(), before);
    }

    private static void bench(Check c) {
        BranchTypes x = new BranchTypes();
        x.made(FLEXIBLE, 0, 0);
        x.made(FLEXIBLE, 0, 0);
        x.made(FLEXIBLE, 0, 0);
        x.made(RIGID, 0, 0);
        c.due("three unsolved", x.bench(2), 3);
        x.unites(0, 1);
        c.due("two unsolved", x.bench(2), 2);
        x.unites(1, 3);
        c.due("one unsolved", x.bench(2), 1);
        c.due("classes", x.classes(), 2);
        c.due("types", x.bench(0), 4);
        x.opens();
        c.due("depth", x.bench(1), 1);
        c.due("bad", x.bench(3), BAD);
        c.due("bad", x.bench(-1), BAD);
    }
}
