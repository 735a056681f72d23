/** TYPES, and promises 1 to 15: a test of each sentence that names an edge; the sentence stands above its test. */
public final class TypesEdgeTest {
    private static final int NONE = BranchTypes.NONE, BAD = BranchTypes.BAD, FULL = BranchTypes.FULL;
    private static final int CLASH = BranchTypes.CLASH, FIXED = BranchTypes.FIXED;
    private static final int INT = 0, BOOL = 1, PAIR = 2, FAMILY = 3, RIGID = 7, FLEXIBLE = 8;
    private static Check c;

    public static void main(String[] args) {
        c = new Check("TypesEdgeTest");
        emptyBench();
        numbers();
        numbersAfterClosing();
        oneOfEachKind();
        sameByNumbersOnly();
        depthOfVariables();
        equalArguments();
        equalWholes();
        equalWholesOfOneArgument();
        madeIntoAClass();
        farClosure();
        closureOfAFullBench();
        representative();
        lowestNumbers();
        contains();
        headsClash();
        headsClashWithin();
        containsItself();
        protectedOnes();
        protectedAfterAssuming();
        protectedInOneClass();
        depthThatProtects();
        fixedWithin();
        closing();
        classesOfAFullBench();
        size();
        smallSizes();
        reached();
        possible();
        possibleByContainment();
        possibleOnAFullBench();
        unsolved();
        c.end();
    }

    private static int[] make(BranchTypes x, int... heads) {
        int[] made = new int[heads.length];
        for (int n = 0; n < heads.length; n++) {
            made[n] = x.made(heads[n], 0, 0);
        }
        return made;
    }

    /** "Creates an object without types ... and no open branch." */
    private static void emptyBench() {
        BranchTypes x = new BranchTypes();
        c.due("types", x.bench(0), 0);
        c.due("depth", x.bench(1), 0);
        c.due("unsolved classes", x.bench(2), 0);
        c.due("classes", x.classes(), 0);
        c.due("no type 0", x.same(0, 0), BAD);
        c.due("nor a pair of it", x.made(PAIR, 0, 0), BAD);
        c.due("a branch of nothing", x.opens(), 1);
        c.due("removes nothing", x.closes(), 0);
    }

    /** "The types of the bench are numbered from 0 in the order in which they are created; there are at most 60." */
    private static void numbers() {
        BranchTypes x = new BranchTypes();
        int[] heads = {INT, BOOL, PAIR, FAMILY, FAMILY + 1, FAMILY + 2, FAMILY + 3, RIGID, FLEXIBLE};
        for (int n = 0; n < heads.length; n++) {
            c.due("number of head " + heads[n], x.made(heads[n], 0, 0), n);
        }
        for (int n = 9; n < 60; n++) {
            c.due("number " + n, x.made(PAIR, n - 1, n - 2), n);
        }
        c.due("sixty", x.bench(0), 60);
        for (int n = 0; n < 7; n++) {
            c.due("head " + n + " is there", x.made(n, 0, 0), n);
        }
        c.due("the last pair is there", x.made(PAIR, 58, 57), 59);
        c.due("not the other way", x.made(PAIR, 57, 58), FULL);
        c.due("no other rigid one", x.made(RIGID, 0, 0), FULL);
        c.due("no other flexible one", x.made(FLEXIBLE, 0, 0), FULL);
        c.due("no other family", x.made(FAMILY, 1, 0), FULL);
        c.due("still sixty", x.bench(0), 60);
    }

    private static void numbersAfterClosing() {
        BranchTypes x = new BranchTypes();
        make(x, INT, RIGID);
        x.opens();
        for (int n = 2; n < 60; n++) {
            c.due("number " + n, x.made(RIGID, 0, 0), n);
        }
        c.due("full", x.made(FLEXIBLE, 0, 0), FULL);
        c.due("58 are removed", x.closes(), 58);
        c.due("none is left of them", x.known(2), BAD);
        c.due("number 2 is free", x.made(BOOL, 0, 0), 2);
        c.due("and bool", x.shape(2, 1), BOOL);
    }

    /** "There are never two types with the same head from 0 to 6 ...; but each rigid and each flexible variable is new." */
    private static void oneOfEachKind() {
        BranchTypes x = new BranchTypes();
        make(x, INT, BOOL, PAIR, FAMILY, FAMILY + 1, FAMILY + 2, FAMILY + 3, RIGID, RIGID, FLEXIBLE, FLEXIBLE);
        c.due("eleven", x.bench(0), 11);
        x.opens();
        for (int head = INT; head < RIGID; head++) {
            c.due("head " + head + " in a branch", x.made(head, 0, 0), head);
        }
        c.due("a third rigid one", x.made(RIGID, 0, 0), 11);
        c.due("a third flexible one", x.made(FLEXIBLE, 0, 0), 12);
        c.due("a class each", x.classes(), 13);
        c.due("two are removed", x.closes(), 2);
    }

    /** "... and the same arguments (by their numbers)": another number in the same class is another argument. */
    private static void sameByNumbersOnly() {
        BranchTypes x = new BranchTypes();
        int[] t = make(x, INT, FLEXIBLE, PAIR, FAMILY + 3);
        x.unites(t[0], t[1]);
        c.due("another first", x.made(PAIR, t[1], t[0]), 4);
        c.due("another second", x.made(PAIR, t[0], t[1]), 5);
        c.due("another index", x.made(FAMILY + 3, t[1], 0), 6);
        c.due("that one again", x.made(PAIR, t[1], t[0]), 4);
        c.due("in three classes", x.classes(), 3);
        c.due("three pairs in one", x.shape(2, 5), 3);
        c.due("two families in one", x.shape(3, 5), 2);
    }

    /** "The depth is the number of open branches, 0 at first. A variable belongs to the depth at which it was created." */
    private static void depthOfVariables() {
        BranchTypes x = new BranchTypes();
        for (int depth = 0; depth <= 8; depth++) {
            c.due("depth", x.bench(1), depth);
            int[] t = make(x, RIGID, FLEXIBLE);
            c.due("of a rigid one", x.reach(t[0]), depth);
            c.due("of a flexible one", x.reach(t[1]), depth);
            c.due("open", x.opens(), depth < 8 ? depth + 1 : FULL);
        }
        for (int depth = 8; depth >= 1; depth--) {
            c.due("depth", x.bench(1), depth);
            c.due("of the first", x.reach(0), 0);
            c.due("of the last", x.reach(2 * depth + 1), depth);
            c.due("two are removed", x.closes(), 2);
        }
        c.due("depth", x.bench(1), 0);
    }

    /** "If two types with the same head from 2 to 6 are in the same class, their first arguments are in one class, ..." */
    private static void equalArguments() {
        for (int head = PAIR; head < RIGID; head++) {
            BranchTypes x = new BranchTypes();
            int[] t = make(x, RIGID, RIGID, RIGID, RIGID);
            int a = x.made(head, t[0], t[1]);
            int b = x.made(head, t[2], t[3]);
            x.opens();
            c.due("made equal", x.equates(a, b), head == PAIR ? 3 : 2);
            c.due("first arguments of " + head, x.same(t[0], t[2]), 1);
            c.due("second arguments of " + head, x.same(t[1], t[3]), head == PAIR ? 1 : 0);
            c.due("not crosswise", x.same(t[0], t[3]), 0);
        }
    }

    /** "Two types with the same head from 0 to 6 whose first ... and second arguments are in one class are in the same." */
    private static void equalWholes() {
        for (int head = PAIR; head < RIGID; head++) {
            BranchTypes x = new BranchTypes();
            int[] t = make(x, RIGID, RIGID, RIGID, RIGID);
            int a = x.made(head, t[0], t[1]);
            int b = x.made(head, t[2], t[3]);
            int other = x.made(head == FAMILY ? FAMILY + 1 : FAMILY, t[2], 0);
            x.opens();
            c.due("second arguments", x.equates(t[1], t[3]), 1);
            c.due("are not enough for " + head, x.same(a, b), 0);
            c.due("both arguments", x.equates(t[0], t[2]), 2);
            c.due("are enough for " + head, x.same(a, b), 1);
            c.due("but not for another head", x.same(b, other), 0);
            x.closes();
            x.opens();
            c.due("first arguments alone", x.equates(t[0], t[2]), head == PAIR ? 1 : 2);
            c.due("for " + head, x.same(a, b), head == PAIR ? 0 : 1);
        }
    }

    /** Many types have the same first argument, and each of them has its own equal. */
    private static void equalWholesOfOneArgument() {
        BranchTypes x = new BranchTypes();
        int[] t = make(x, RIGID, RIGID, INT, BOOL);
        int types = x.bench(0);
        for (int first = 0; first < 2; first++) {
            for (int head = PAIR; head < RIGID; head++) {
                x.made(head, t[first], t[2]);
            }
            x.made(PAIR, t[first], t[3]);
            x.made(PAIR, t[first], t[first]);
        }
        x.opens();
        c.due("seven and the two themselves", x.equates(t[0], t[1]), 8);
        for (int n = types; n < types + 7; n++) {
            c.due("each with its own", x.shape(n + 7, 4) * 10 + x.shape(n, 5), n * 10 + 2);
        }
    }

    private static void madeIntoAClass() {
        for (int head = PAIR; head < RIGID; head++) {
            BranchTypes x = new BranchTypes();
            int[] t = make(x, INT, RIGID);
            int a = x.made(head, t[0], t[0]);
            x.opens();
            x.equates(t[0], t[1]);
            int b = x.made(head, t[1], t[0]);
            c.due("a new one of " + head, b, 3);
            c.due("in the class of the other", x.same(a, b), 1);
            c.due("two classes", x.classes(), 2);
            x.closes();
            c.due("two and the rigid one", x.classes(), 3);
            int d = x.made(head, t[1], t[0]);
            c.due("not in its class without the branch", x.same(a, d), 0);
        }
    }

    /** Through several types up and down, and through what was equal before. */
    private static void farClosure() {
        BranchTypes x = new BranchTypes();
        int[] t = make(x, RIGID, RIGID, RIGID, INT);
        int a = x.made(FAMILY, x.made(PAIR, t[0], t[3]), 0);
        int b = x.made(FAMILY, x.made(PAIR, t[1], t[2]), 0);
        int upon = x.made(FAMILY + 3, t[0], 0);
        int other = x.made(FAMILY + 3, t[1], 0);
        x.opens();
        c.due("families, pairs, two arguments, and families upon them", x.equates(a, b), 5);
        c.due("down", x.same(t[2], t[3]), 1);
        c.due("down and up", x.same(upon, other), 1);
        c.due("head of a part", x.shape(t[2], 1), INT);
        x.opens();
        c.due("what is equal again", x.equates(b, a), 0);
        c.due("one step more", x.equates(t[0], t[3]), 1);
        c.due("all of them", x.shape(t[1], 5), 4);
    }

    /** Thirty of the types of a full bench follow from one that is made equal. */
    private static void closureOfAFullBench() {
        BranchTypes x = new BranchTypes();
        make(x, RIGID, RIGID);
        for (int n = 2; n < 60; n++) {
            c.due("a chain", x.made(FAMILY + n / 2 % 4, n - 2, 0), n);
        }
        x.opens();
        c.due("from below", x.equates(0, 1), 30);
        c.due("thirty classes", x.classes(), 30);
        c.due("up to the last", x.same(58, 59), 1);
        c.due("but no farther", x.same(56, 59), 0);
        x.closes();
        c.due("sixty classes", x.classes(), 60);
        x.opens();
        c.due("from above", x.equates(59, 58), 30);
        c.due("down to the first", x.same(0, 1), 1);
        x.closes();
        x.opens();
        c.due("from within", x.equates(31, 30), 30);
    }

    /** "The representative ... is ... the type with a head from 0 to 6 that has the lowest number; if there is none, ..." */
    private static void representative() {
        BranchTypes x = new BranchTypes();
        int[] f = make(x, FLEXIBLE, FLEXIBLE);
        int[] r = make(x, RIGID, RIGID);
        int low = x.made(FAMILY + 3, r[0], 0);
        int high = x.made(FAMILY + 3, r[1], 0);
        c.due("of a flexible one", x.shape(f[1], 0), f[1]);
        c.due("of a rigid one", x.shape(r[1], 0), r[1]);
        x.unites(f[1], f[0]);
        c.due("the lowest flexible one", x.shape(f[1], 0), f[0]);
        c.due("is unsolved", x.known(f[1]), 0);
        x.unites(f[1], r[1]);
        c.due("a rigid one comes before", x.shape(f[0], 0), r[1]);
        c.due("is solved", x.known(f[0]), 1);
        x.opens();
        x.equates(r[0], r[1]);
        c.due("the lowest rigid one", x.shape(r[1], 0), r[0]);
        c.due("the lowest family", x.shape(high, 0), low);
        x.opens();
        int i = x.made(INT, 0, 0);
        x.equates(r[1], i);
        c.due("what has a lower head comes before all", x.shape(f[0], 0), i);
        c.due("its head", x.shape(f[0], 1), INT);
        x.closes();
        c.due("the rigid one again", x.shape(f[0], 0), r[0]);
    }

    /** shape: "4 the lowest number of a type in its class, 5 the number of types in its class". */
    private static void lowestNumbers() {
        BranchTypes x = new BranchTypes();
        for (int n = 0; n < 60; n++) {
            x.made(FLEXIBLE, 0, 0);
        }
        c.due("alone", x.shape(59, 4) * 100 + x.shape(59, 5), 5901);
        for (int n = 58; n >= 0; n--) {
            x.unites(n, 59);
            c.due("the lowest of more", x.shape(59, 4), n);
            c.due("the number of more", x.shape(n, 5), 60 - n);
        }
        c.due("one class", x.classes(), 1);
        c.due("of unsolved types", x.bench(2), 1);
        BranchTypes y = new BranchTypes();
        make(y, RIGID, RIGID, RIGID, RIGID);
        y.opens();
        y.equates(0, 1);
        y.opens();
        y.equates(2, 3);
        y.equates(3, 1);
        c.due("four", y.shape(2, 5) * 10 + y.shape(2, 4), 40);
        y.closes();
        c.due("two again", y.shape(0, 5) * 10 + y.shape(1, 4), 20);
        c.due("one again", y.shape(3, 5) * 10 + y.shape(3, 4), 13);
        y.closes();
        c.due("one again", y.shape(0, 5) * 10 + y.shape(1, 5), 11);
    }

    /** "A type is known if it is not unsolved and contains no unsolved type", also far within. */
    private static void contains() {
        for (int head = PAIR; head < RIGID; head++) {
            BranchTypes x = new BranchTypes();
            int[] t = make(x, INT, FLEXIBLE, FLEXIBLE, RIGID);
            int first = x.made(head, t[1], t[0]);
            int second = x.made(PAIR, t[3], first);
            int far = x.made(FAMILY, x.made(FAMILY + 1, second, 0), 0);
            c.due("first argument of " + head, x.known(first), 0);
            c.due("second argument", x.known(second), 0);
            c.due("far within", x.known(far), 0);
            c.due("what another one contains", x.known(t[3]), 1);
            x.unites(t[1], t[2]);
            c.due("still unsolved", x.known(far), 0);
            x.unites(t[2], t[3]);
            c.due("solved", x.known(far), 1);
            c.due("and itself", x.known(t[1]), 1);
        }
        BranchTypes x = new BranchTypes();
        int[] t = make(x, FLEXIBLE, FLEXIBLE, INT);
        x.unites(t[0], x.made(FAMILY, t[1], 0));
        c.due("solved, but what it contains is not", x.known(t[0]), 0);
        x.unites(t[1], t[2]);
        c.due("now it is", x.known(t[0]), 1);
    }

    /** "A clash would arise if a class contained types with two different heads from 0 to 6". */
    private static void headsClash() {
        for (int a = INT; a < RIGID; a++) {
            for (int b = INT; b < RIGID; b++) {
                BranchTypes x = new BranchTypes();
                make(x, INT, RIGID, RIGID);
                int left = x.made(a, 1, 1);
                int right = x.made(b, 2, 2);
                int due = a != b ? CLASH : left == right ? 0 : 2;
                x.opens();
                c.due("would unite " + a + " and " + b, x.would(left, right), a != b ? CLASH : left == right ? 0 : FIXED);
                c.due("equates " + a + " and " + b, x.equates(left, right), due);
                c.due("two rigid ones", x.same(1, 2), due == 2 ? 1 : 0);
            }
        }
    }

    /** The same through a variable that is equal to one of them, and through arguments. */
    private static void headsClashWithin() {
        BranchTypes x = new BranchTypes();
        int[] t = make(x, INT, BOOL, RIGID, RIGID, RIGID);
        int a = x.made(PAIR, t[2], t[2]);
        int b = x.made(PAIR, t[0], t[1]);
        int d = x.made(FAMILY, t[3], 0);
        int e = x.made(FAMILY + 1, t[4], 0);
        x.opens();
        c.due("one variable for two", x.equates(a, b), CLASH);
        c.due("nothing changed", x.classes(), 9);
        c.due("a variable is a family", x.equates(t[2], d), 1);
        c.due("and no other one", x.equates(t[2], e), CLASH);
        c.due("nor int", x.equates(t[0], t[2]), CLASH);
        c.due("nor a pair", x.equates(a, t[2]), CLASH);
        c.due("eight classes", x.classes(), 8);
        int p = x.made(PAIR, t[2], t[0]);
        int q = x.made(PAIR, e, t[0]);
        c.due("first arguments", x.equates(p, q), CLASH);
        c.due("second arguments", x.equates(x.made(PAIR, t[0], t[2]), x.made(PAIR, t[0], e)), CLASH);
        BranchTypes y = new BranchTypes();
        int[] s = make(y, INT, BOOL, RIGID, RIGID);
        int up = y.made(FAMILY + 1, y.made(PAIR, y.made(FAMILY, s[2], 0), s[0]), 0);
        int down = y.made(FAMILY + 1, y.made(PAIR, y.made(FAMILY, s[3], 0), s[1]), 0);
        y.opens();
        c.due("a clash far below", y.equates(up, down), CLASH);
        c.due("what came before it is undone", y.same(s[2], s[3]), 0);
        c.due("left alone it is none", y.equates(s[2], s[3]), 2);
    }

    /** "... or if a type contained a type of its own class." */
    private static void containsItself() {
        for (int head = PAIR; head < RIGID; head++) {
            BranchTypes x = new BranchTypes();
            int[] t = make(x, INT, FLEXIBLE, FLEXIBLE);
            c.due("first argument of " + head, x.unites(t[1], x.made(head, t[1], t[0])), CLASH);
            c.due("second argument", x.unites(t[1], x.made(PAIR, t[0], t[1])), CLASH);
            c.due("far within", x.unites(t[1], x.made(FAMILY, x.made(head, t[1], t[1]), 0)), CLASH);
            c.due("one way", x.unites(t[1], x.made(head, t[2], t[0])), 1);
            c.due("and back", x.unites(t[2], x.made(FAMILY, t[1], 0)), CLASH);
            c.due("no rounds", x.unites(t[2], t[1]), CLASH);
            c.due("unsolved", x.known(t[2]), 0);
        }
        BranchTypes x = new BranchTypes();
        int[] t = make(x, RIGID, RIGID);
        int a = x.made(PAIR, t[0], x.made(FAMILY, t[1], 0));
        int b = x.made(PAIR, x.made(FAMILY, t[1], 0), t[0]);
        int d = x.made(PAIR, x.made(FAMILY, t[1], 0), t[1]);
        x.opens();
        c.due("through two arguments", x.equates(a, d), CLASH);
        c.due("twice within, but not itself", x.equates(a, b), 2);
        c.due("and then", x.equates(t[0], t[1]), CLASH);
        c.due("a type and its own", x.equates(t[0], b), CLASH);
    }

    /** Types of depth 0: int, bool, two rigid, two flexible, one that is int, one that is rigid; of depth 1: three more. */
    private static BranchTypes outerAndInner() {
        BranchTypes x = new BranchTypes();
        make(x, INT, BOOL, RIGID, RIGID, FLEXIBLE, FLEXIBLE, FLEXIBLE, FLEXIBLE);
        x.unites(6, 0);
        x.unites(7, 2);
        x.opens();
        make(x, RIGID, FLEXIBLE, FLEXIBLE);
        return x;
    }

    private static void would(BranchTypes x, String name, int a, int b, int due) {
        c.due("would unite " + name, x.would(a, b), due);
        c.due("would unite the other way " + name, x.would(b, a), due);
    }

    /** "Protected are the rigid variables whose representative is a rigid variable, and the flexible variables of a ..." */
    private static void protectedOnes() {
        BranchTypes x = outerAndInner();
        int i = 0, b = 1, r = 2, s = 3, f = 4, g = 5, isInt = 6, isRigid = 7, inner = 8, h = 9, k = 10;
        would(x, "two rigid", r, s, FIXED);
        would(x, "a rigid and an inner rigid", r, inner, FIXED);
        would(x, "a rigid and int", r, i, FIXED);
        would(x, "an inner rigid and bool", inner, b, FIXED);
        would(x, "a rigid and an outer flexible", r, f, FIXED);
        would(x, "an inner rigid and an outer flexible", inner, f, FIXED);
        would(x, "a rigid and an inner flexible", r, h, 1);
        would(x, "an inner rigid and an inner flexible", inner, h, 1);
        would(x, "two outer flexible", f, g, FIXED);
        would(x, "an outer flexible and int", f, i, FIXED);
        would(x, "an outer and an inner flexible", f, h, 1);
        would(x, "two inner flexible", h, k, 1);
        would(x, "an inner flexible and int", h, i, 1);
        would(x, "one that is int and int", isInt, i, 0);
        would(x, "one that is int and bool", isInt, b, CLASH);
        would(x, "one that is int and an inner flexible", isInt, h, 1);
        would(x, "one that is int and an outer flexible", isInt, f, FIXED);
        would(x, "one that is int and a rigid", isInt, r, FIXED);
        would(x, "one that is rigid and its rigid", isRigid, r, 0);
        would(x, "one that is rigid and another rigid", isRigid, s, FIXED);
        would(x, "one that is rigid and int", isRigid, i, FIXED);
        would(x, "one that is rigid and an inner flexible", isRigid, k, 1);
        would(x, "one that is int and one that is rigid", isInt, isRigid, FIXED);
        c.due("nothing has changed", x.classes(), 9);
        c.due("unites the inner one", x.unites(h, r), 1);
        would(x, "it and another rigid", h, s, FIXED);
        would(x, "it and int", h, i, FIXED);
        would(x, "it and another inner one", h, k, 1);
    }

    /** What is assumed to be int is not protected any more; what is assumed to be rigid is. */
    private static void protectedAfterAssuming() {
        BranchTypes x = outerAndInner();
        int i = 0, r = 2, s = 3, f = 4, isRigid = 7, inner = 8, h = 9;
        c.due("assumes int", x.equates(r, i), 1);
        would(x, "a rigid that is int and int", r, i, 0);
        would(x, "what is rigid and int", isRigid, i, 0);
        would(x, "a rigid that is int and a rigid", r, s, FIXED);
        would(x, "a rigid that is int and an outer flexible", r, f, FIXED);
        would(x, "a rigid that is int and an inner flexible", r, h, 1);
        x.closes();
        x.opens();
        int[] t = make(x, RIGID, FLEXIBLE);
        c.due("assumes a rigid one", x.equates(s, r), 1);
        would(x, "both rigid", r, s, 0);
        would(x, "one of them and int", s, i, FIXED);
        would(x, "one of them and a third", s, t[0], FIXED);
        would(x, "one of them and an inner flexible", s, t[1], 1);
        c.due("numbers", inner * 100 + h, t[0] * 100 + t[1]);
        x.closes();
        would(x, "protected again", r, i, FIXED);
    }

    /** "... or two protected variables of two different classes would be in one class": those of one class may stay in it. */
    private static void protectedInOneClass() {
        BranchTypes x = new BranchTypes();
        int[] t = make(x, FLEXIBLE, FLEXIBLE, FLEXIBLE, INT);
        c.due("two free ones", x.unites(t[0], t[1]), 1);
        x.opens();
        int inner = x.made(FLEXIBLE, 0, 0);
        would(x, "both", t[0], t[1], 0);
        would(x, "both and an inner one", t[1], inner, 1);
        would(x, "both and a third", t[1], t[2], FIXED);
        c.due("unites the inner one", x.unites(inner, t[1]), 1);
        would(x, "three and int", inner, t[3], FIXED);
        would(x, "three and a third outer one", inner, t[2], FIXED);
        c.due("two unsolved classes", x.bench(2), 2);
    }

    /** "... flexible variables of a smaller depth than the present one": of the same depth they are free. */
    private static void depthThatProtects() {
        BranchTypes x = new BranchTypes();
        int i = x.made(INT, 0, 0);
        for (int depth = 0; depth <= 8; depth++) {
            int t = x.made(FLEXIBLE, 0, 0);
            c.due("of depth " + depth, x.would(t, i), 1);
            c.due("and the one before", x.would(t, t - 1), 1);
            if (depth > 0) {
                c.due("one of a smaller depth", x.would(t - 1, i), FIXED);
            }
            if (depth > 1) {
                c.due("two of smaller depths", x.would(t - 1, t - 2), FIXED);
            }
            x.opens();
        }
        for (int depth = 8; depth >= 1; depth--) {
            x.closes();
            c.due("free again at depth " + (depth - 1), x.would(depth, i), 1);
        }
    }

    /** FIXED is found in arguments too, and yields to a clash anywhere. */
    private static void fixedWithin() {
        BranchTypes x = outerAndInner();
        int i = 0, b = 1, r = 2, f = 4, h = 9, k = 10;
        would(x, "free in the first", x.made(PAIR, h, i), x.made(PAIR, i, k), 3);
        would(x, "protected in the first", x.made(PAIR, f, i), x.made(PAIR, i, k), FIXED);
        would(x, "protected in the second", x.made(PAIR, i, r), x.made(PAIR, k, b), FIXED);
        would(x, "and a clash in the second", x.made(PAIR, f, i), x.made(PAIR, i, b), CLASH);
        would(x, "and a clash in the first", x.made(PAIR, i, r), x.made(PAIR, b, b), CLASH);
        would(x, "an outer one that would contain itself", f, x.made(PAIR, i, f), CLASH);
        would(x, "a rigid one that would contain itself", x.made(FAMILY, r, 0), r, CLASH);
        would(x, "two rigid ones of which one contains an inner one", x.made(PAIR, h, h), x.made(PAIR, r, 3), FIXED);
        would(x, "the same rigid one twice", x.made(PAIR, h, h), x.made(PAIR, r, r), 2);
        c.due("nothing has changed", x.same(h, k) + x.same(r, h) + x.same(f, i), 0);
    }

    /** "When a branch is closed, the types that were created in it are removed, and the types that were made equal ..." */
    private static void closing() {
        BranchTypes x = new BranchTypes();
        make(x, INT, BOOL, RIGID, RIGID, FLEXIBLE);
        c.due("outside of branches", x.unites(4, 2), 1);
        long[] before = new long[9];
        for (int depth = 1; depth <= 8; depth++) {
            before[depth] = x.digest();
            x.opens();
            int t = x.made(FLEXIBLE, 0, 0);
            x.unites(t, depth % 2 == 0 ? 0 : 1);
            if (depth == 3) {
                x.equates(2, 0);
            }
            if (depth == 5) {
                x.equates(3, 4);
            }
            x.made(PAIR, t, t);
        }
        c.due("both are int", x.shape(3, 1) + x.shape(4, 1), INT);
        for (int depth = 8; depth >= 1; depth--) {
            c.due("a variable and a pair", x.closes(), 2);
            c.due("as before " + depth, x.digest(), before[depth]);
            c.due("one is int", x.shape(2, 1), depth > 3 ? INT : RIGID);
            c.due("the other one too", x.shape(3, 1), depth > 5 ? INT : RIGID);
        }
        c.due("what was united outside", x.same(4, 2), 1);
    }

    /** classes: from 60 for types that are all different down to 1; would, unites and equates tell the difference. */
    private static void classesOfAFullBench() {
        BranchTypes x = new BranchTypes();
        for (int n = 0; n < 30; n++) {
            x.made(FLEXIBLE, 0, 0);
        }
        for (int n = 0; n < 30; n++) {
            x.made(FAMILY, n, 0);
        }
        c.due("sixty", x.classes(), 60);
        for (int n = 1; n < 30; n++) {
            c.due("would be two fewer", x.would(0, n), 2);
            c.due("two fewer", x.unites(0, n), 2);
        }
        c.due("two", x.classes(), 2);
        c.due("none fewer", x.unites(30, 59), 0);
        c.due("thirty in each", x.shape(59, 5) * 100 + x.shape(59, 4), 3030);
    }

    /** measure: "1 plus the sizes of the arguments of its representative, but at most 9999." */
    private static void size() {
        // A pair of two of size n has size 2 n + 1; a family of one has size n + 1.
        int[] wanted = {9997, 9998, 9999, 10000, 10001};
        for (int due : wanted) {
            BranchTypes x = new BranchTypes();
            x.made(INT, 0, 0);
            c.due("size " + due, x.measure(ofSize(x, due)), Math.min(due, 9999));
        }
        BranchTypes x = new BranchTypes();
        int t = x.made(INT, 0, 0);
        for (int n = 1; n < 59; n++) {
            t = x.made(PAIR, t, t);
        }
        c.due("far more than an int can count", x.measure(t), 9999);
        c.due("half of it", x.measure(t - 29), 9999);
        c.due("8191", x.measure(12), 8191);
        c.due("16383", x.measure(13), 9999);
        c.due("a family of it", x.measure(x.made(FAMILY, t, 0)), 9999);
    }

    private static int ofSize(BranchTypes x, int size) {
        if (size == 1) {
            return 0;
        }
        if (size % 2 == 0) {
            return x.made(FAMILY, ofSize(x, size - 1), 0);
        }
        int half = ofSize(x, (size - 1) / 2);
        return x.made(PAIR, half, half);
    }

    private static void smallSizes() {
        BranchTypes x = new BranchTypes();
        int[] t = make(x, INT, BOOL, RIGID, FLEXIBLE, FLEXIBLE);
        for (int n = 0; n < 5; n++) {
            c.due("a size of 1", x.measure(t[n]), 1);
        }
        int d = x.made(FAMILY + 3, t[3], 0);
        int p = x.made(PAIR, d, t[4]);
        c.due("a family", x.measure(d), 2);
        c.due("a pair", x.measure(p), 4);
        x.unites(t[4], d);
        c.due("by its representative", x.measure(t[4]), 2);
        c.due("and so its pair", x.measure(p), 5);
        x.unites(t[3], x.made(PAIR, t[0], t[1]));
        c.due("all of them", x.measure(p) * 10 + x.measure(d), 94);
    }

    /** reach: "the greatest depth of the variables that are representatives ..."; "0 if there is no such variable". */
    private static void reached() {
        BranchTypes x = new BranchTypes();
        int[] t = make(x, INT, FAMILY, FLEXIBLE);
        c.due("none in int", x.reach(t[0]), 0);
        c.due("none in a family of it", x.reach(t[1]), 0);
        x.opens();
        x.opens();
        int[] second = make(x, FLEXIBLE, RIGID, FAMILY + 3);
        c.due("none in a family of int at depth 2", x.reach(second[2]), 0);
        int deep = x.made(PAIR, second[1], t[2]);
        c.due("depth 2, in the first", x.reach(deep), 2);
        c.due("depth 2, in the second", x.reach(x.made(PAIR, t[2], second[0])), 2);
        x.opens();
        int[] third = make(x, FLEXIBLE, RIGID, FLEXIBLE);
        int deeper = x.made(PAIR, x.made(FAMILY, third[0], 0), deep);
        c.due("the greater of 3 and 2", x.reach(deeper), 3);
        c.due("also in the other place", x.reach(x.made(PAIR, deep, third[1])), 3);
        x.unites(third[0], second[0]);
        c.due("the representative is of depth 2", x.reach(deeper) * 10 + x.reach(third[0]), 22);
        x.unites(third[2], t[2]);
        c.due("and that one of depth 0", x.reach(third[2]), 0);
        x.equates(third[1], second[1]);
        c.due("the lowest rigid one is of depth 2", x.reach(third[1]), 2);
        x.equates(second[1], t[0]);
        c.due("an int has no depth", x.reach(third[1]), 0);
        c.due("what is left", x.reach(deep), 0);
    }

    /** comes: "whether the assumption that is described for a match causes no clash". */
    private static void possible() {
        BranchTypes x = new BranchTypes();
        String[] indices = {":i", ":b", ":u", ":puu", ":puv", ":d3u", ":d2i", ":pud0u"};
        for (String index : indices) {
            Check.constructs(x, 3, index);
        }
        int[] t = make(x, INT, BOOL, RIGID, RIGID);
        int[] inside = {t[0], t[1], t[2], x.made(PAIR, t[0], t[0]), x.made(PAIR, t[0], t[1]), x.made(PAIR, t[2], t[3]),
            x.made(PAIR, t[2], x.made(FAMILY, t[2], 0)), x.made(FAMILY + 3, t[0], 0), x.made(FAMILY + 2, t[1], 0)};
        String[] due = {"10100000", "01100000", "11111111", "00111000", "00101000", "00111001", "00101001", "00100100", "00100000"};
        for (int n = 0; n < inside.length; n++) {
            int type = x.made(FAMILY + 3, inside[n], 0);
            StringBuilder got = new StringBuilder();
            for (int k = 0; k < indices.length; k++) {
                got.append(x.comes(k, type));
            }
            c.due("index " + n, got.toString(), due[n]);
        }
    }

    /** The clash may be that a type would contain itself, and the assumption may rest on what is assumed already. */
    private static void possibleByContainment() {
        BranchTypes x = new BranchTypes();
        Check.constructs(x, 0, ":pud0u");
        Check.constructs(x, 0, "u,v,:puu");
        int[] t = make(x, INT, BOOL, RIGID, RIGID);
        int same = x.made(FAMILY, x.made(PAIR, t[2], t[2]), 0);
        int pair = x.made(FAMILY, x.made(PAIR, t[2], t[3]), 0);
        c.due("a type and its family are not equal", x.comes(0, same), 0);
        c.due("two equal ones", x.comes(1, same), 1);
        c.due("two rigid ones may be", x.comes(0, pair) * 10 + x.comes(1, pair), 11);
        x.opens();
        x.equates(t[2], t[0]);
        c.due("one is int", x.comes(0, pair) * 10 + x.comes(1, pair), 11);
        x.equates(t[3], t[1]);
        c.due("the other one bool", x.comes(0, pair) * 10 + x.comes(1, pair), 0);
        x.closes();
        x.opens();
        x.equates(t[2], t[3]);
        c.due("both are one", x.comes(0, pair) * 10 + x.comes(1, pair), 1);
        c.due("nothing remains but this", x.classes(), 5);
    }

    /** comes: "Nothing of this remains, and the types created for it do not count for the maximum of 60." */
    private static void possibleOnAFullBench() {
        BranchTypes x = new BranchTypes();
        c.due("24 bytes", Check.constructs(x, 1, "puv,pvw,pwu,:ppupvwpvpwu"), 0);
        for (int n = 0; n < 8; n++) {
            x.opens();
        }
        int u = x.made(RIGID, 0, 0);
        int inner = x.made(PAIR, x.made(PAIR, u, u), u);
        int d = x.made(FAMILY + 1, u, 0);
        int e = x.made(FAMILY + 1, inner, 0);
        while (x.bench(0) < 60) {
            x.made(FLEXIBLE, 0, 0);
        }
        long before = x.digest();
        c.due("can be", x.comes(0, d), 1);
        c.due("cannot be", x.comes(0, e), 0);
        c.due("and again", x.comes(0, d), 1);
        c.due("nothing remains", x.digest(), before);
        c.due("depth", x.bench(1), 8);
        c.due("a 61st type", x.made(RIGID, 0, 0), FULL);
    }

    /** bench: "2 classes whose types are unsolved". */
    private static void unsolved() {
        BranchTypes x = new BranchTypes();
        for (int n = 0; n < 60; n++) {
            c.due("unsolved", x.bench(2), n);
            x.made(FLEXIBLE, 0, 0);
        }
        c.due("sixty", x.bench(2), 60);
        BranchTypes y = new BranchTypes();
        int[] t = make(y, INT, FLEXIBLE, FLEXIBLE, RIGID);
        int d = y.made(FAMILY, t[1], 0);
        c.due("a family of it is none", y.bench(2), 2);
        y.opens();
        int f = y.made(FLEXIBLE, 0, 0);
        c.due("one more in a branch", y.bench(2), 3);
        y.unites(f, d);
        c.due("but not if it is solved", y.bench(2), 2);
        y.closes();
        y.unites(t[1], t[2]);
        c.due("one class of two", y.bench(2), 1);
        y.unites(t[2], t[0]);
        c.due("none", y.bench(2), 0);
        c.due("and NONE is not asked", y.shape(d, 3), NONE);
    }
}
