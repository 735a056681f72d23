/** The class and its oracle side by side: each call goes to both, and their answers are compared. */
final class Both {
    /** Of the 512 calls some are left for a why, a digest and the like. */
    private static final int LAST_CALL = 500;
    final BranchTypes x = new BranchTypes();
    final Oracle o = new Oracle();
    private final Check check;
    private final String name;
    private final StringBuilder log = new StringBuilder();
    int calls;

    Both(Check check, String name) {
        this.check = check;
        this.name = name;
    }

    private int due(String call, int got, int want) {
        calls++;
        log.append(call).append('=').append(want).append(' ');
        check.due(got == want ? call : name + " after " + log, got, want);
        return want;
    }

    int made(int head, int a, int b) {
        return due("made(" + head + "," + a + "," + b + ")", x.made(head, a, b), o.made(head, a, b));
    }

    int opens() {
        return due("opens", x.opens(), o.opens());
    }

    int closes() {
        return due("closes", x.closes(), o.closes());
    }

    int equates(int a, int b) {
        return due("equates(" + a + "," + b + ")", x.equates(a, b), o.equates(a, b));
    }

    int unites(int a, int b) {
        return due("unites(" + a + "," + b + ")", x.unites(a, b), o.unites(a, b));
    }

    int would(int a, int b) {
        return due("would(" + a + "," + b + ")", x.would(a, b), o.would(a, b));
    }

    int same(int a, int b) {
        return due("same(" + a + "," + b + ")", x.same(a, b), o.same(a, b));
    }

    int shape(int a, int what) {
        return due("shape(" + a + "," + what + ")", x.shape(a, what), o.shape(a, what));
    }

    int classes() {
        return due("classes", x.classes(), o.classes());
    }

    int measure(int a) {
        return due("measure(" + a + ")", x.measure(a), o.measure(a));
    }

    int reach(int a) {
        return due("reach(" + a + ")", x.reach(a), o.reach(a));
    }

    int known(int a) {
        return due("known(" + a + ")", x.known(a), o.known(a));
    }

    int comes(int k, int a) {
        return due("comes(" + k + "," + a + ")", x.comes(k, a), o.comes(k, a));
    }

    int bench(int what) {
        return due("bench(" + what + ")", x.bench(what), o.bench(what));
    }

    int begins(int k) {
        return due("begins(" + k + ")", x.begins(k), o.begins(k));
    }

    void write(String text) {
        for (int i = 0; i < text.length(); i++) {
            due("'" + text.charAt(i) + "'", x.type(text.charAt(i)), o.type(text.charAt(i)));
        }
    }

    int clear() {
        return due("clear", x.clear(), o.clear());
    }

    int constructs(int family) {
        return due("constructs(" + family + ")", x.constructs(family), o.constructs(family));
    }

    int signs() {
        return due("signs", x.signs(), o.signs());
    }

    int bodies(int f) {
        return due("bodies(" + f + ")", x.bodies(f), o.bodies(f));
    }

    int runs() {
        return due("runs", x.runs(), o.runs());
    }

    int why() {
        return due("why", x.why(), o.why());
    }

    int constructor(int k, int what) {
        return due("constructor(" + k + "," + what + ")", x.constructor(k, what), o.constructor(k, what));
    }

    int function(int f, int what) {
        return due("function(" + f + "," + what + ")", x.function(f, what), o.function(f, what));
    }

    int ran(int what) {
        return due("ran(" + what + ")", x.ran(what), o.ran(what));
    }

    int typeAt(int i) {
        return due("typeAt(" + i + ")", x.typeAt(i), o.typeAt(i));
    }

    int valueAt(int i) {
        return due("valueAt(" + i + ")", x.valueAt(i), o.valueAt(i));
    }

    int told(int what) {
        return due("told(" + what + ")", x.told(what), o.told(what));
    }

    void digest() {
        calls++;
        check.due("digest", x.digest(), o.digest());
    }

    /** Compares the type and value of the latest run, if so many calls are left: nothing is promised after 512. */
    void written() {
        int type = o.ran(2);
        int value = o.ran(3);
        if (calls + type + value + 2 > LAST_CALL) {
            return;
        }
        for (int i = 0; i <= type; i++) {
            typeAt(i);
        }
        for (int i = 0; i <= value; i++) {
            valueAt(i);
        }
    }
}
