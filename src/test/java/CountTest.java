/** Promises 29 and 30: the counts and the hash value. */
public final class CountTest {
    private static final int BAD = BranchTypes.BAD;

    public static void main(String[] args) {
        Check c = new Check("CountTest");
        told(c);
        othersAreNotCounted(c);
        digest(c);
        digestSeesAll(c);
        c.end();
    }

    private static void told(Check c) {
        BranchTypes x = new BranchTypes();
        c.due("bad", x.told(6), BAD);
        c.due("bad", x.told(-1), BAD);
        c.due("bads", x.told(0), 2);
        x.closes();
        x.closes();
        x.closes();
        c.due("nos", x.told(1), 3);
        for (int n = 0; n < 9; n++) {
            x.opens();
        }
        c.due("fulls", x.told(2), 1);
        x.begins(1);
        c.due("constructors", x.told(3), 5);
        c.due("functions", x.told(4), 1);
        x.type(1);
        x.type(2);
        c.due("bytes", x.told(5), 2);
        c.due("bads", x.told(0), 2);
    }

    /** CLASH, FIXED, NONE, faults and the ends of runs are no errors that are counted. */
    private static void othersAreNotCounted(Check c) {
        BranchTypes x = new BranchTypes();
        x.made(0, 0, 0);
        x.made(1, 0, 0);
        x.made(7, 0, 0);
        x.unites(0, 1);
        x.unites(0, 2);
        x.shape(0, 2);
        x.typeAt(5);
        Check.signs(x, "i,:i");
        Check.runs(x, "G01");
        Check.bodies(x, 0, "G0a");
        Check.runs(x, "G01");
        Check.runs(x, "}");
        c.due("bads", x.told(0), 0);
        c.due("nos", x.told(1), 0);
        c.due("fulls", x.told(2), 0);
    }

    private static long hash(int... numbers) {
        long h = 1545;
        for (int n : numbers) {
            h = 31 * h + n;
        }
        return h;
    }

    private static void digest(Check c) {
        BranchTypes x = new BranchTypes();
        c.due("nothing", x.digest(), hash(0, 0, 0, 0, 0, 0, 0, 0, 0, 0, 0, 0, 0, 0));
        x.made(8, 0, 0);
        x.made(0, 0, 0);
        x.opens();
        x.made(8, 0, 0);
        x.made(8, 0, 0);
        x.unites(2, 1);
        x.known(9);
        x.known(9);
        x.equates(0, 0);
        x.begins(2);
        Check.runs(x, "x");
        Check.runs(x, "P12");
        Check.write(x, "ab");
        c.due("something", x.digest(), hash(2, 1, 0, 1, 3, 2, 4, 1, 2, 0, 1, 1, 3, 1, 3, 2, 3, 5));
        c.due("once more", x.digest(), hash(2, 1, 0, 1, 3, 2, 4, 1, 2, 0, 1, 1, 3, 1, 3, 2, 3, 5));
    }

    /** The hash of many classes overflows as Java's long does. */
    private static void digestSeesAll(Check c) {
        BranchTypes x = new BranchTypes();
        long h = 1545;
        for (int n : new int[] {0, 0, 0, 0, 0, 0, 60, 0, 60}) {
            h = 31 * h + n;
        }
        for (int n = 0; n < 60; n++) {
            x.made(8, 0, 0);
            h = 31 * h + n;
        }
        for (int n = 0; n < 5; n++) {
            h *= 31;
        }
        c.due("sixty", x.digest(), h);
        x.unites(59, 0);
        c.due("another", x.digest() == h ? 1 : 0, 0);
    }
}
