/** All that can be seen of an object without its counts of errors, so that two objects can be compared. */
final class Seen {
    /** Types of which each property is asked; of more types only the class is, as an object is used for 512 calls. */
    private static final int ASKED_WHOLE = 12;

    private Seen() {
    }

    /** Asks all there is, then runs the text and closes the branches: the object is of no use afterwards. */
    static String all(BranchTypes x) {
        StringBuilder out = new StringBuilder();
        bench(x, out);
        declared(x, out);
        ran(x, out);
        out.append(" text: ").append(x.told(5)).append(' ').append(x.runs());
        ran(x, out);
        for (int n = x.bench(1); n > 0; n--) {
            out.append(" closes: ").append(x.closes()).append(' ').append(x.classes());
        }
        return out.toString();
    }

    private static void bench(BranchTypes x, StringBuilder out) {
        int types = x.bench(0);
        out.append("bench: ").append(types).append(' ').append(x.bench(1)).append(' ').append(x.bench(2));
        out.append(' ').append(x.classes());
        for (int t = 0; t < types; t++) {
            out.append(" t").append(t).append('=').append(x.shape(t, 4));
            for (int what = 0; what <= 5 && types <= ASKED_WHOLE; what++) {
                out.append(',').append(x.shape(t, what));
            }
            if (types <= ASKED_WHOLE) {
                out.append(',').append(x.measure(t)).append(',').append(x.reach(t)).append(',').append(x.known(t));
            }
        }
    }

    private static void declared(BranchTypes x, StringBuilder out) {
        int constructors = x.told(3);
        int functions = x.told(4);
        for (int k = 0; k < constructors; k++) {
            out.append(" C").append(x.constructor(k, 0)).append(x.constructor(k, 1)).append(x.constructor(k, 2));
        }
        for (int f = 0; f < functions; f++) {
            out.append(" G").append(x.function(f, 0)).append(x.function(f, 1)).append(x.function(f, 2));
        }
    }

    private static void ran(BranchTypes x, StringBuilder out) {
        out.append(" why: ").append(x.why()).append(" ran:");
        for (int what = 0; what <= 3; what++) {
            out.append(' ').append(x.ran(what));
        }
        out.append(' ').append(Check.typeOf(x)).append(' ').append(Check.valueOf(x));
    }
}
