/** Promise 1: a new object has nothing. */
public final class NewObjectTest {
    public static void main(String[] args) {
        Check c = new Check("NewObjectTest");
        BranchTypes x = new BranchTypes();
        for (int what = 0; what <= 5; what++) {
            c.due("told " + what, x.told(what), 0);
        }
        for (int what = 0; what <= 2; what++) {
            c.due("bench " + what, x.bench(what), 0);
        }
        for (int what = 0; what <= 3; what++) {
            c.due("ran " + what, x.ran(what), 0);
        }
        c.due("classes", x.classes(), 0);
        c.due("why", x.why(), 0);
        c.due("clear", x.clear(), 0);
        long h = 1545;
        for (int n = 0; n < 14; n++) {
            h *= 31;
        }
        c.due("digest", x.digest(), h);
        c.due("no type", x.known(0), BranchTypes.BAD);
        c.due("no constructor", x.constructor(0, 0), BranchTypes.BAD);
        c.due("no function", x.function(0, 0), BranchTypes.BAD);
        c.due("no byte of a type", x.typeAt(0), BranchTypes.NONE);
        c.due("no byte of a value", x.valueAt(0), BranchTypes.NONE);
        c.due("no branch", x.closes(), BranchTypes.NO);
        c.end();
    }
}
