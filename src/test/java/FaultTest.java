/** The faults of expressions: position and reason of each, and the order in which they are found. */
public final class FaultTest {
    private static Check c;

    public static void main(String[] args) {
        c = new Check("FaultTest");
        reading();
        weight();
        weightEdge();
        unequal();
        fixed();
        matches();
        cases();
        missing();
        order();
        positions();
        branches();
        c.end();
    }

    private static void run(BranchTypes x, String text, int at, int reason) {
        c.due("runs " + text, Check.runs(x, text), -10 - at);
        c.due("why of " + text, x.why(), reason);
        c.due("text of " + text, x.told(5), 0);
    }

    private static void body(BranchTypes x, int f, String text, int at, int reason) {
        c.due("body " + text, Check.bodies(x, f, text), -10 - at);
        c.due("why of " + text, x.why(), reason);
    }

    private static BranchTypes with(String made, String called) {
        BranchTypes x = new BranchTypes();
        for (String s : made.split(" ")) {
            if (!s.isEmpty()) {
                Check.constructs(x, s.charAt(0) - '0', s.substring(1));
            }
        }
        for (String s : called.split(" ")) {
            if (!s.isEmpty()) {
                Check.signs(x, s);
            }
        }
        return x;
    }

    private static void reading() {
        BranchTypes x = with("0:i 0i,u,:u", "i,i,:i");
        String[] wrong = {"", "a", "+", "+1", "+1}", "12", "C", "C2", "Ca", "C1", "C11", "G", "G1", "G01", "M", "M1", "M1{", "M1{2",
            "M1{0", "M1{1", "M1{x}", "M1{0c}", "M1{1c}", "M1{1ab", "M1}", "?TT", "x", "A", " 1", "1 ", "P1", "{", "M1{}}", "M{}", "#",
            "M1{1aM1{1d}}", "M1{1aM1{1e}}", "M1{1a0a}"};
        int[] place = {0, 0, 1, 2, 2, 1, 1, 1, 1, 2, 3, 1, 1, 3, 1, 2, 3, 3,
            4, 4, 3, 4, 4, 5, 2, 3, 0, 0, 0, 1, 2, 0, 4, 1, 0,
            5, 5, 6};
        for (int n = 0; n < wrong.length; n++) {
            run(x, wrong[n], place[n], 1);
        }
        // The scope of a body, and of cases within it, ends at its own letters.
        body(x, 0, "c", 0, 1);
        body(x, 0, "z", 0, 1);
        body(x, 0, "+ab+", 3, 1);
        body(x, 0, "Ma{1e}", 4, 1);
        body(x, 0, "Ma{1d}", 0, 6);
        body(x, 0, "Ma{1Mb{1g}}", 8, 1);
        body(x, 0, "Ma{1Mb{1f}}", 0, 6);
        body(x, 0, "Ma{1d0c}", 6, 1);
    }

    /** The bytes of the text count from the beginning, the signatures as they come. */
    private static void weight() {
        BranchTypes x = with("0pppuuuu,pppuuuu,:ppuupuu 0:i", "i,:i");
        // 24 bytes for each C0, 2 for each C1, 4 for each G0.
        String nine = "C0".repeat(9);
        run(x, nine, 18, 1);
        run(x, nine + "C1", 20, 1);
        run(x, nine + "C1".repeat(2), 21, 2);
        run(x, nine + "C1".repeat(3), 19, 2);
        run(x, nine + "C0", 19, 2);
        run(x, "C0".repeat(10), 19, 2);
        run(x, nine + "TTTTTT", 24, 1);
        run(x, nine + "TTTTTTT", 17, 2);
        run(x, "TC0", 1, 1);
        // The bytes behind a digit count too, and the fault is at what comes first.
        x = with("0pppuuuu,pppuuuu,:ppuupuu 0:i", "i,:i");
        run(x, "C0".repeat(8) + "}" + "T".repeat(83), 11, 2);
        run(x, "C0".repeat(5) + "}" + "T".repeat(89), 10, 1);
        run(x, "C0".repeat(5) + "C0" + "T".repeat(88), 11, 2);
        x = with("0pppuuuu,pppuuuu,:ppuupuu 0:i", "i,:i");
        run(x, "M1{0" + "C0".repeat(9) + "}", 21, 2);
        run(x, "M1{0" + "C0".repeat(8) + "0" + "}", 21, 1);
        run(x, "M1{0".repeat(10) + "}", 35, 2);
        run(x, "C2" + "T".repeat(98), 1, 1);
    }

    private static void weightEdge() {
        // 96 bytes and 36 times 4 are 240: the whole is right, and one byte more is too heavy at the last G.
        BranchTypes x = with("", "i,:i");
        Check.bodies(x, 0, "1");
        c.due("a weight of 240", Check.runs(x, "G0".repeat(36) + "+1".repeat(10) + "?T12"), 95);
        run(x, "G0".repeat(36) + "+1".repeat(12) + "2", 71, 2);
        run(x, "G0".repeat(36) + "+1".repeat(11) + "L2", 94, 3);
        run(x, "G0".repeat(36) + "+1".repeat(11) + "+2", 96, 1);
    }

    private static void unequal() {
        BranchTypes x = with("0i,:i 0d0i,:b", "u,:u puv,:u");
        run(x, "+T1", 1, 3);
        run(x, "+1T", 2, 3);
        run(x, "<T1", 1, 3);
        run(x, "=1F", 2, 3);
        run(x, "-1P12", 2, 3);
        run(x, "?111", 1, 3);
        run(x, "?T1F", 3, 3);
        run(x, "?TP12P1T", 7, 3);
        run(x, "?TP12T", 5, 3);
        run(x, "L1", 0, 3);
        run(x, "+1LT", 2, 3);
        run(x, "+1LPT1", 2, 3);
        run(x, "C0T", 2, 3);
        run(x, "C1C1C01", 2, 3);
        run(x, "C11", 2, 3);
        run(x, "?C0111", 1, 3);
        run(x, "G11", 2, 3);
        run(x, "+1G0T", 4, 3);
        run(x, "+1G1PT1", 5, 3);
        c.due("a right part", Check.runs(x, "+1G1P1T"), BranchTypes.OPEN);
        run(x, "L+11", 0, 3);
        run(x, "RL1", 1, 3);
    }

    private static void fixed() {
        BranchTypes x = with("0:u", "u,v,:u i,u,:i u,:puv d0u,i,:u");
        body(x, 0, "1", 0, 4);
        body(x, 0, "b", 0, 4);
        body(x, 0, "?Tab", 3, 4);
        body(x, 0, "La", 0, 4);
        body(x, 1, "+ab", 2, 4);
        body(x, 1, "Lb", 0, 4);
        body(x, 1, "?b11", 1, 4);
        body(x, 2, "Paa", 2, 4);
        body(x, 3, "Ma{0b}", 4, 4);
        c.due("a right body", Check.bodies(x, 0, "G0aC0"), 3);
        c.due("a pair with a free part", Check.bodies(x, 2, "PaRG2a"), 5);
    }

    private static void matches() {
        BranchTypes x = with("0:i 1i,:u", "i,:i u,:i d0u,d1u,:i :d0u u,:d0u :v");
        run(x, "M1{}", 0, 5);
        run(x, "+1M1{}", 2, 6);
        run(x, "L?TM1{}1", 3, 5);
        run(x, "PM1{}1", 1, 5);
        body(x, 0, "Ma{}", 0, 6);
        body(x, 1, "Ma{}", 0, 6);
        body(x, 0, "MG3{}", 0, 6);
        body(x, 0, "MG4a{}", 0, 9);
        body(x, 0, "MG5{}", 0, 6);
        body(x, 0, "+1MP12{}", 2, 6);
        body(x, 2, "MMa{}{}", 1, 5);
        body(x, 2, "M?TaMa{}{01}", 4, 9);
        c.due("a match in a match", Check.bodies(x, 2, "Ma{0Mb{1c}}"), 5);
    }

    private static void cases() {
        BranchTypes x = with("0:i 0:b 1i,:u 0u,:piu", "d0i,d1i,:i d0u,d1u,:i d0piu,:u d0d1i,:i");
        body(x, 0, "Ma{0020}", 5, 7);
        body(x, 0, "Ma{020}", 6, 1);
        body(x, 0, "Ma{0000}", 5, 7);
        body(x, 0, "Ma{10}", 3, 8);
        body(x, 0, "Ma{0030}", 5, 8);
        body(x, 0, "Mb{00}", 3, 7);
        body(x, 1, "Ma{00103T}", 8, 3);
        c.due("each of them once", Check.bodies(x, 1, "Ma{001030}"), 5);
        body(x, 2, "Ma{3b0b}", 6, 1);
        body(x, 2, "Ma{0a}", 3, 8);
        c.due("none of them", Check.bodies(x, 3, "Ma{}"), 2);
    }

    private static void missing() {
        BranchTypes x = with("0:i 0:b 0u,:piu", "d0i,:i d0u,:i d0pib,:i d0pbi,:i d1i,:i");
        body(x, 0, "Ma{}", 0, 9);
        c.due("only int", Check.bodies(x, 0, "Ma{00}"), 3);
        body(x, 1, "+0Ma{0010}", 2, 9);
        body(x, 1, "Ma{0020}", 0, 9);
        body(x, 1, "Ma{}", 0, 9);
        c.due("all in any order", Check.bodies(x, 1, "Ma{201000}"), 5);
        body(x, 2, "Ma{}", 0, 9);
        c.due("a pair", Check.bodies(x, 2, "Ma{2?b12}"), 6);
        c.due("none can be", Check.bodies(x, 3, "Ma{}"), 2);
        body(x, 3, "Ma{20}", 3, 8);
        c.due("a family without constructors", Check.bodies(x, 4, "Ma{}"), 2);
    }

    /** Reading comes first, then parts from left to right, and a match looks at its cases before at what is missing. */
    private static void order() {
        BranchTypes x = with("0:i 0:b", "d0u,:u u,:i");
        run(x, "+TTx", 3, 1);
        run(x, "P+1TM1{}", 3, 3);
        run(x, "PM1{}+1T", 1, 5);
        body(x, 0, "Ma{0T}", 4, 3);
        body(x, 0, "Ma{00}", 0, 9);
        body(x, 0, "Ma{0010}", 6, 3);
        c.due("in any order", Check.bodies(x, 0, "Ma{1T01}"), 4);
        body(x, 0, "Ma{0T0T}", 4, 3);
        body(x, 0, "Ma{0101}", 5, 7);
    }

    /** A call is unified with what is wanted before its parts are checked; when it is inferred, there is nothing to unify. */
    private static void positions() {
        BranchTypes x = with("0u,:u 1i,:b", "i,:b u,v,:puv");
        run(x, "+G0T1", 1, 3);
        run(x, "+1G0T", 2, 3);
        run(x, "LG0T", 3, 3);
        run(x, "LG01", 0, 3);
        run(x, "?C0T11", 1, 3);
        run(x, "?G0T11", 3, 3);
        run(x, "LC0P1+TT", 6, 3);
        run(x, "LC0P1T", 0, 3);
        run(x, "+1LRG1P12T", 2, 3);
        c.due("a part of a part", Check.runs(x, "+1LLG1P12T"), BranchTypes.OPEN);
    }

    /** What is assumed in a case holds in it alone, and outer unknown types stay unknown in it. */
    private static void branches() {
        BranchTypes x = with("0:i 0:b 1d0u,u,:u", "d0u,:u u,u,:b :v d1u,:u d0u,u,:i");
        c.due("each case by itself", Check.bodies(x, 0, "Ma{011T}"), 4);
        body(x, 0, "Ma{0T11}", 4, 3);
        c.due("a field's own type", Check.bodies(x, 3, "Ma{2c}"), 3);
        body(x, 3, "Ma{2b}", 4, 3);
        c.due("equal in the case", Check.bodies(x, 4, "Ma{0b1?b12}"), 7);
        body(x, 4, "?TbMa{0b10}", 2, 4);
        body(x, 4, "?G1Ma{0b11}011", 7, 4);
        c.due("a match within a part", Check.bodies(x, 4, "?G11Ma{0b11}23"), 9);
    }
}
