/**
 * ERRORS: the edges of every argument, and every call that is refused. Each of them is made on one of two objects with
 * the same past, which must then differ by the count of that error alone.
 */
public final class RefusedTest {
    private static final int NONE = BranchTypes.NONE, BAD = BranchTypes.BAD, NO = BranchTypes.NO, FULL = BranchTypes.FULL;
    private static final int CLASH = BranchTypes.CLASH, FIXED = BranchTypes.FIXED;
    private static final int INT = 0, BOOL = 1, PAIR = 2, FAMILY = 3, RIGID = 7, FLEXIBLE = 8;
    private static Check c;

    private interface Past {
        void of(BranchTypes x);
    }

    private interface Call {
        int on(BranchTypes x);
    }

    private interface Asked {
        int on(BranchTypes x, int argument);
    }

    public static void main(String[] args) {
        c = new Check("RefusedTest");
        typeArguments();
        otherArguments();
        ignoredArguments();
        notPossibleNow();
        maximumExceeded();
        badBeforeNo();
        badBeforeFull();
        noBeforeFull();
        noneOnlyWithoutAnError();
        clashAndFixed();
        c.end();
    }

    /** Something of everything: 9 types, 2 constructors, 2 functions, a run, a fault, a branch, a text. */
    private static void rich(BranchTypes x) {
        x.begins(3);
        x.made(INT, 0, 0);
        x.made(BOOL, 0, 0);
        x.made(RIGID, 0, 0);
        x.made(FLEXIBLE, 0, 0);
        x.made(PAIR, 2, 3);
        x.made(FAMILY, 0, 0);
        x.made(FAMILY, 3, 0);
        x.made(FAMILY + 1, 0, 0);
        Check.runs(x, "P1T");
        Check.runs(x, "x");
        x.opens();
        x.made(FLEXIBLE, 0, 0);
        x.equates(2, 0);
        Check.write(x, "+12");
    }

    private static void fullBench(BranchTypes x) {
        x.made(INT, 0, 0);
        x.made(FAMILY, 0, 0);
        while (x.bench(0) < 60) {
            x.made(RIGID, 0, 0);
        }
    }

    private static void declares(BranchTypes x, int constructors, int functions) {
        for (int k = 0; k < constructors; k++) {
            Check.constructs(x, 0, ":i");
        }
        for (int f = 0; f < functions; f++) {
            Check.signs(x, ":i");
        }
        Check.write(x, ":b");
    }

    /** The call answers what is due, that is counted if it is an error, and nothing else has changed. */
    private static void changesNothing(String name, Past past, Call call, int due) {
        BranchTypes asked = new BranchTypes();
        BranchTypes other = new BranchTypes();
        past.of(asked);
        past.of(other);
        c.due(name, call.on(asked), due);
        for (int error = BAD; error >= FULL; error--) {
            int count = other.told(BAD - error) + (due == error ? 1 : 0);
            c.due(name + " is counted as " + error, asked.told(BAD - error), count);
        }
        c.due(name + " changes nothing else", Seen.all(asked), Seen.all(other));
    }

    /** An argument may be from 0 to the last; what is below or above is BAD. */
    private static void bounds(String name, int last, Asked asked) {
        for (int outside : new int[] {-1, last + 1, Integer.MIN_VALUE, Integer.MAX_VALUE}) {
            changesNothing(name + " " + outside, RefusedTest::rich, x -> asked.on(x, outside), BAD);
        }
        for (int inside = 0; inside <= last; inside++) {
            BranchTypes x = new BranchTypes();
            rich(x);
            c.due(name + " " + inside, asked.on(x, inside) == BAD ? 1 : 0, 0);
            c.due(name + " " + inside + " counts nothing", x.told(0), 0);
        }
    }

    /** "BAD if an argument is not a type", "if there is no such type". */
    private static void typeArguments() {
        bounds("made, first of a pair", 8, (x, v) -> x.made(PAIR, v, 0));
        bounds("made, second of a pair", 8, (x, v) -> x.made(PAIR, 0, v));
        for (int head = FAMILY; head < RIGID; head++) {
            int family = head;
            bounds("made, index of " + head, 8, (x, v) -> x.made(family, v, -1));
        }
        bounds("equates, x", 8, (x, v) -> x.equates(v, 0));
        bounds("equates, y", 8, (x, v) -> x.equates(0, v));
        bounds("unites, x", 8, (x, v) -> x.unites(v, 0));
        bounds("unites, y", 8, (x, v) -> x.unites(0, v));
        bounds("would, x", 8, (x, v) -> x.would(v, 0));
        bounds("would, y", 8, (x, v) -> x.would(0, v));
        bounds("same, x", 8, (x, v) -> x.same(v, 0));
        bounds("same, y", 8, (x, v) -> x.same(0, v));
        bounds("shape, x", 8, (x, v) -> x.shape(v, 0));
        bounds("measure", 8, (x, v) -> x.measure(v));
        bounds("reach", 8, (x, v) -> x.reach(v));
        bounds("known", 8, (x, v) -> x.known(v));
        bounds("comes, x", 8, (x, v) -> x.comes(0, v));
    }

    /** "BAD if ... is out of range", "if there is no such constructor", "if there is no such function". */
    private static void otherArguments() {
        bounds("made, head", 8, (x, v) -> x.made(v, 0, 0));
        bounds("shape, what", 5, (x, v) -> x.shape(4, v));
        bounds("comes, k", 1, (x, v) -> x.comes(v, 5));
        bounds("bench", 2, (x, v) -> x.bench(v));
        bounds("begins", 3, (x, v) -> x.begins(v));
        bounds("type", 127, (x, v) -> x.type(v));
        bounds("constructs", 3, (x, v) -> x.constructs(v));
        bounds("bodies", 1, (x, v) -> x.bodies(v));
        bounds("constructor, k", 1, (x, v) -> x.constructor(v, 0));
        bounds("constructor, what", 2, (x, v) -> x.constructor(1, v));
        bounds("function, f", 1, (x, v) -> x.function(v, 0));
        bounds("function, what", 2, (x, v) -> x.function(1, v));
        bounds("ran", 3, (x, v) -> x.ran(v));
        bounds("told", 5, (x, v) -> x.told(v));
        for (int i : new int[] {-1, -2, Integer.MIN_VALUE}) {
            changesNothing("typeAt " + i, RefusedTest::rich, x -> x.typeAt(i), BAD);
            changesNothing("valueAt " + i, RefusedTest::rich, x -> x.valueAt(i), BAD);
        }
        for (int i : new int[] {5, 200, Integer.MAX_VALUE}) {
            changesNothing("typeAt " + i, RefusedTest::rich, x -> x.typeAt(i), NONE);
            changesNothing("valueAt " + i, RefusedTest::rich, x -> x.valueAt(i), NONE);
        }
    }

    /** made: "ignored if there is none". */
    private static void ignoredArguments() {
        int[] heads = {INT, BOOL, RIGID, FLEXIBLE};
        BranchTypes x = new BranchTypes();
        for (int n = 0; n < heads.length; n++) {
            c.due("no arguments of " + heads[n], x.made(heads[n], Integer.MIN_VALUE, Integer.MAX_VALUE), n);
        }
        for (int head = FAMILY; head < RIGID; head++) {
            c.due("no second argument of " + head, x.made(head, 0, Integer.MIN_VALUE), 1 + head);
            c.due("nor another one of " + head, x.made(head, 0, 3), 1 + head);
            c.due("none is kept of " + head, x.shape(1 + head, 3), NONE);
        }
        c.due("int is there", x.made(INT, 3, 4), 0);
        c.due("bool is there", x.made(BOOL, 4, 3), 1);
        c.due("bads", x.told(0), 0);
    }

    /** "NO, the call is not possible now, as the method says". */
    private static void notPossibleNow() {
        changesNothing("closes without a branch", RefusedTest::fullBench, x -> x.closes(), NO);
        changesNothing("closes on a new object", x -> { }, x -> x.closes(), NO);
        changesNothing("equates without a branch", RefusedTest::fullBench, x -> x.equates(1, 1), NO);
        changesNothing("equates what is not known", RefusedTest::rich, x -> x.equates(3, 0), NO);
        changesNothing("equates with what is not known", RefusedTest::rich, x -> x.equates(0, 3), NO);
        changesNothing("equates what contains it", RefusedTest::rich, x -> x.equates(4, 4), NO);
        changesNothing("comes, no family", RefusedTest::rich, x -> x.comes(0, 0), NO);
        changesNothing("comes, a variable", RefusedTest::rich, x -> x.comes(0, 3), NO);
        changesNothing("comes, a pair", RefusedTest::rich, x -> x.comes(0, 4), NO);
        changesNothing("comes, another family", RefusedTest::rich, x -> x.comes(0, 7), NO);
        changesNothing("comes, an index that is not known", RefusedTest::rich, x -> x.comes(1, 6), NO);
        changesNothing("constructs after a function", x -> declares(x, 1, 1), x -> x.constructs(0), NO);
        changesNothing("constructs after a prepared one", x -> x.begins(1), x -> x.constructs(0), NO);
    }

    /** "FULL, a maximum would be exceeded", and what is just below it. */
    private static void maximumExceeded() {
        for (int head = INT; head <= FLEXIBLE; head++) {
            int made = head == INT ? BOOL : head == FAMILY ? FAMILY + 1 : head;
            changesNothing("a 61st type " + made, RefusedTest::fullBench, x -> x.made(made, 0, 0), FULL);
        }
        changesNothing("a 61st pair", RefusedTest::fullBench, x -> x.made(PAIR, 59, 58), FULL);
        changesNothing("the int of a full bench", RefusedTest::fullBench, x -> x.made(INT, 0, 0), 0);
        changesNothing("the family of a full bench", RefusedTest::fullBench, x -> x.made(FAMILY, 0, 0), 1);
        changesNothing("a ninth branch", x -> opens(x, 8), x -> x.opens(), FULL);
        changesNothing("a 101st byte", x -> Check.write(x, "1".repeat(100)), x -> x.type('1'), FULL);
        changesNothing("an 11th constructor", x -> declares(x, 10, 0), x -> x.constructs(0), FULL);
        changesNothing("a 7th function", x -> declares(x, 0, 6), x -> x.signs(), FULL);
        changesNothing("a 7th function after ten constructors", x -> declares(x, 10, 6), x -> x.signs(), FULL);
        justBelow();
    }

    private static void opens(BranchTypes x, int times) {
        for (int n = 0; n < times; n++) {
            x.opens();
            x.made(RIGID, 0, 0);
        }
    }

    private static void justBelow() {
        BranchTypes x = new BranchTypes();
        opens(x, 7);
        c.due("an eighth branch", x.opens(), 8);
        Check.write(x, "1".repeat(99));
        c.due("a 100th byte", x.type('1'), 100);
        x.clear();
        declares(x, 9, 0);
        c.due("a tenth constructor", x.constructs(0), 9);
        declares(x, 0, 5);
        c.due("a sixth function", x.signs(), 5);
        while (x.bench(0) < 59) {
            x.made(RIGID, 0, 0);
        }
        c.due("a 60th type", x.made(FLEXIBLE, 0, 0), 59);
        c.due("fulls", x.told(2), 0);
    }

    /** "If several of them apply to one call, the first one in this list is returned": BAD, NO, FULL. */
    private static void badBeforeNo() {
        changesNothing("equates without a branch, x", RefusedTest::fullBench, x -> x.equates(60, 0), BAD);
        changesNothing("equates without a branch, y", RefusedTest::fullBench, x -> x.equates(0, -1), BAD);
        changesNothing("equates, x is not known and y is none", RefusedTest::rich, x -> x.equates(3, 9), BAD);
        changesNothing("equates, y is not known and x is none", RefusedTest::rich, x -> x.equates(-1, 3), BAD);
        changesNothing("comes, no constructor and no family", RefusedTest::rich, x -> x.comes(2, 0), BAD);
        changesNothing("comes, no constructor and not known", RefusedTest::rich, x -> x.comes(-1, 6), BAD);
        changesNothing("comes without constructors", RefusedTest::fullBench, x -> x.comes(0, 2), BAD);
        changesNothing("constructs after a function", x -> declares(x, 1, 1), x -> x.constructs(4), BAD);
    }

    private static void badBeforeFull() {
        changesNothing("made on a full bench, head", RefusedTest::fullBench, x -> x.made(9, 0, 0), BAD);
        changesNothing("made on a full bench, first", RefusedTest::fullBench, x -> x.made(PAIR, 60, 0), BAD);
        changesNothing("made on a full bench, second", RefusedTest::fullBench, x -> x.made(PAIR, 0, 60), BAD);
        changesNothing("made on a full bench, index", RefusedTest::fullBench, x -> x.made(FAMILY, -1, 0), BAD);
        changesNothing("a byte 128 as 101st", x -> Check.write(x, "1".repeat(100)), x -> x.type(128), BAD);
        changesNothing("a byte -1 as 101st", x -> Check.write(x, "1".repeat(100)), x -> x.type(-1), BAD);
        changesNothing("an 11th constructor of family 4", x -> declares(x, 10, 0), x -> x.constructs(4), BAD);
        changesNothing("and after a function", x -> declares(x, 10, 1), x -> x.constructs(-1), BAD);
    }

    private static void noBeforeFull() {
        changesNothing("an 11th constructor after a function", x -> declares(x, 10, 1), x -> x.constructs(0), NO);
        changesNothing("and after six functions", x -> declares(x, 10, 6), x -> x.constructs(3), NO);
    }

    /** "NONE (-1) means that there is no such value; it is returned only if no error applies." */
    private static void noneOnlyWithoutAnError() {
        changesNothing("no argument of no type", RefusedTest::rich, x -> x.shape(9, 2), BAD);
        changesNothing("no second argument of no type", RefusedTest::rich, x -> x.shape(-1, 3), BAD);
        changesNothing("no argument of an int", RefusedTest::rich, x -> x.shape(0, 2), NONE);
        changesNothing("no second argument of a family", RefusedTest::rich, x -> x.shape(5, 3), NONE);
        changesNothing("a property 6 of an int", RefusedTest::rich, x -> x.shape(0, 6), BAD);
        changesNothing("a byte -1 of nothing", x -> { }, x -> x.typeAt(-1), BAD);
        changesNothing("a byte -1 of no value", x -> { }, x -> x.valueAt(-1), BAD);
        changesNothing("a byte 0 of nothing", x -> { }, x -> x.typeAt(0), NONE);
        changesNothing("a byte 0 of no value", x -> { }, x -> x.valueAt(0), NONE);
    }

    /** "In both cases nothing changes", and neither is counted. */
    private static void clashAndFixed() {
        changesNothing("equates int and bool", RefusedTest::rich, x -> x.equates(0, 1), CLASH);
        changesNothing("equates bool and what was assumed to be int", RefusedTest::rich, x -> x.equates(2, 1), CLASH);
        changesNothing("equates int and a family of it", RefusedTest::rich, x -> x.equates(2, 5), CLASH);
        changesNothing("unites two families", RefusedTest::rich, x -> x.unites(5, 7), CLASH);
        changesNothing("unites what contains the other", RefusedTest::rich, x -> x.unites(3, 4), CLASH);
        changesNothing("unites an outer flexible one", RefusedTest::rich, x -> x.unites(3, 0), FIXED);
        changesNothing("unites families of it", RefusedTest::rich, x -> x.unites(6, 5), FIXED);
        changesNothing("would decrease by one", RefusedTest::rich, x -> x.would(8, 4), 1);
        changesNothing("would be fixed", RefusedTest::rich, x -> x.would(3, 1), FIXED);
        changesNothing("would clash", RefusedTest::rich, x -> x.would(0, 1), CLASH);
        changesNothing("would be bad", RefusedTest::rich, x -> x.would(0, 9), BAD);
        changesNothing("unites what is one already", RefusedTest::rich, x -> x.unites(0, 2), 0);
        changesNothing("comes", RefusedTest::rich, x -> x.comes(0, 5), 1);
        changesNothing("comes not", RefusedTest::rich, x -> x.comes(1, 5), 0);
    }
}
