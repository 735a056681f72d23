/** Compares answers with those that are due, and prints each that differs. */
final class Check {
    private final String name;
    private int asked;
    private int wrong;

    Check(String name) {
        this.name = name;
    }

    void due(String what, long got, long want) {
        asked++;
        if (got != want) {
            wrong++;
            if (wrong <= 40) {
                System.out.println(name + ": " + what + " answered " + got + ", due is " + want);
            }
        }
    }

    void due(String what, String got, String want) {
        asked++;
        if (!got.equals(want)) {
            wrong++;
            System.out.println(name + ": " + what + " answered \"" + got + "\", due is \"" + want + "\"");
        }
    }

    /** Ends the program, with 1 if an answer was wrong. */
    void end() {
        System.out.println(name + ": " + asked + " answers, " + wrong + " wrong");
        System.exit(wrong == 0 && asked > 0 ? 0 : 1);
    }

    /** Puts a text at the end of the text of an object. */
    static void write(BranchTypes x, String text) {
        for (int i = 0; i < text.length(); i++) {
            x.type(text.charAt(i));
        }
    }

    static int constructs(BranchTypes x, int family, String text) {
        write(x, text);
        return x.constructs(family);
    }

    static int signs(BranchTypes x, String text) {
        write(x, text);
        return x.signs();
    }

    static int bodies(BranchTypes x, int f, String text) {
        write(x, text);
        return x.bodies(f);
    }

    static int runs(BranchTypes x, String text) {
        write(x, text);
        return x.runs();
    }

    /** The type of the latest run, byte by byte. */
    static String typeOf(BranchTypes x) {
        StringBuilder b = new StringBuilder();
        for (int i = 0, c = x.typeAt(0); c >= 0; i++, c = x.typeAt(i)) {
            b.append((char) c);
        }
        return b.toString();
    }

    /** The value of the latest run, byte by byte. */
    static String valueOf(BranchTypes x) {
        StringBuilder b = new StringBuilder();
        for (int i = 0, c = x.valueAt(0); c >= 0; i++, c = x.valueAt(i)) {
            b.append((char) c);
        }
        return b.toString();
    }
}
