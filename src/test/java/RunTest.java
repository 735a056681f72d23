/** Promises 22 and 26 to 28: runs, their limits, and what is kept of them. */
public final class RunTest {
    private static final int NONE = BranchTypes.NONE, BAD = BranchTypes.BAD;
    private static final int OPEN = BranchTypes.OPEN, SPENT = BranchTypes.SPENT, DEEP = BranchTypes.DEEP;
    private static Check c;

    public static void main(String[] args) {
        c = new Check("RunTest");
        expressions();
        types();
        numbers();
        stepsAndNesting();
        open();
        spentEdge();
        deepEdge();
        spentBeforeDeep();
        keptFromEarlier();
        keptBytes();
        matches();
        outOfRange();
        c.end();
    }

    private static void run(BranchTypes x, String text, int steps, String type, String value) {
        c.due("runs " + text, Check.runs(x, text), steps);
        c.due("type of " + text, Check.typeOf(x), type);
        c.due("value of " + text, Check.valueOf(x), value);
        c.due("text of " + text, x.told(5), 0);
    }

    private static void expressions() {
        BranchTypes x = new BranchTypes();
        run(x, "7", 1, "i", "7.");
        run(x, "T", 1, "b", "T");
        run(x, "F", 1, "b", "F");
        run(x, "+45", 3, "i", "9.");
        run(x, "-45", 3, "i", "-1.");
        run(x, "<12", 3, "b", "T");
        run(x, "<22", 3, "b", "F");
        run(x, "=22", 3, "b", "T");
        run(x, "=21", 3, "b", "F");
        run(x, "?T12", 3, "i", "1.");
        run(x, "?F12", 3, "i", "2.");
        run(x, "?<1+11-90-09", 9, "i", "9.");
        run(x, "P1T", 3, "pib", "P1.T");
        run(x, "PP12PTF", 7, "ppiipbb", "PP1.2.PTF");
        run(x, "LP1T", 4, "i", "1.");
        run(x, "RP1T", 4, "b", "T");
        run(x, "RLPP1TF", 7, "b", "T");
        run(x, "-0+99", 5, "i", "-18.");
    }

    private static void types() {
        BranchTypes x = new BranchTypes();
        Check.constructs(x, 0, ":u");
        Check.constructs(x, 3, "u,:puv");
        Check.constructs(x, 1, "d0u,d0u,:u");
        run(x, "C0", 1, "d0_", "C0");
        run(x, "C11", 2, "d3pi_", "C11.");
        run(x, "C1C1C0", 3, "d3pd3pd0___", "C1C1C0");
        run(x, "C2C0C0", 3, "d1_", "C2C0C0");
        run(x, "PC0C0", 3, "pd0_d0_", "PC0C0");
        run(x, "?TC0C0", 3, "d0_", "C0");
        Check.signs(x, "u,d0u,:u");
        c.due("its body", Check.bodies(x, 0, "a"), 1);
        run(x, "G0TC0", 4, "b", "T");
        Check.signs(x, "d0u,u,:d0u");
        Check.bodies(x, 1, "a");
        run(x, "G1C05", 4, "d0i", "C0");
    }

    private static void numbers() {
        BranchTypes x = new BranchTypes();
        Check.signs(x, "i,:i");
        c.due("eight times", Check.bodies(x, 0, "+++aa+aa++aa+aa"), 15);
        String far = "G0G0G0G0G0G0G0G0G08";
        run(x, far, 9 + 1 + 9 * 15, "i", "1073741824.");
        run(x, "+" + far + far, 291, "i", "-2147483648.");
        run(x, "-+" + far + far + "1", 293, "i", "2147483647.");
        run(x, "--" + far + far + "9", 293, "i", "-9.");
        run(x, "<+" + far + far + "0", 293, "b", "T");
        run(x, "-0+" + far + far, 293, "i", "-2147483648.");
        run(x, "+99", 3, "i", "18.");
        run(x, "+1+99", 5, "i", "19.");
        run(x, "G0G0+66", 2 + 3 + 30, "i", "768.");
        run(x, "-0G0G0+66", 4 + 3 + 30, "i", "-768.");
        run(x, "+G0G0G0+8+11+88", 57, "i", "5136.");
    }

    private static void stepsAndNesting() {
        BranchTypes x = new BranchTypes();
        Check.signs(x, "i,:i");
        Check.bodies(x, 0, "+a1");
        c.due("one", Check.runs(x, "5") * 100 + x.ran(1), 101);
        c.due("sum", Check.runs(x, "+55") * 100 + x.ran(1), 302);
        c.due("call", Check.runs(x, "G05") * 100 + x.ran(1), 503);
        c.due("nested call", Check.runs(x, "G0G05") * 100 + x.ran(1), 904);
        c.due("choice", Check.runs(x, "?T1+1+12") * 100 + x.ran(1), 302);
        c.due("other choice", Check.runs(x, "?F1+1+12") * 100 + x.ran(1), 704);
        c.due("steps", x.ran(0), 7);
        c.due("bytes of the type", x.ran(2), 1);
        c.due("bytes of the value", x.ran(3), 2);
    }

    private static void open() {
        BranchTypes x = new BranchTypes();
        Check.signs(x, "i,:i");
        Check.signs(x, "i,:i");
        c.due("no body", Check.runs(x, "G01"), OPEN);
        c.due("the text is read", x.told(5), 0);
        c.due("not chosen", Check.runs(x, "?T1G01"), 3);
        c.due("no run before it", Check.runs(x, "+1G01"), OPEN);
        Check.bodies(x, 1, "G1a");
        c.due("its parts come first", Check.runs(x, "G0G11"), DEEP);
        c.due("it comes first", Check.runs(x, "PG01G11"), OPEN);
        c.due("it comes last", Check.runs(x, "PG11G01"), DEEP);
        Check.bodies(x, 1, "+G1aG1a");
        c.due("no fault", x.why(), 0);
        c.due("the run that was kept", x.ran(0), 3);
    }

    /** 1000 steps are allowed, the next one is not. */
    private static void spentEdge() {
        BranchTypes x = new BranchTypes();
        Check.constructs(x, 0, "u,:u");
        Check.signs(x, ":i");
        Check.signs(x, ":i");
        Check.signs(x, ":i");
        // A sum of 16 numbers has 31 expressions, so that a call of it has 32 steps.
        c.due("31 expressions", Check.bodies(x, 0, sum(16, "1")), 31);
        // 8 such calls and 7 sums, so that a call of them has 264 steps.
        c.due("15 expressions", Check.bodies(x, 1, sum(8, "G0")), 15);
        c.due("264 steps", Check.runs(x, "G1"), 264);
        // 3 calls of 264 steps, 6 calls of 32 and 8 sums.
        String most = sum(9, "X").replaceFirst("X", "G1").replaceFirst("X", "G1").replaceFirst("X", "G1").replace("X", "G0");
        c.due("992 steps", Check.runs(x, most), 992);
        c.due("999 steps", Check.runs(x, "C0+1+1+1" + most), 999);
        c.due("1000 steps", Check.runs(x, "+1+1+1+1" + most), 1000);
        c.due("are kept", x.ran(0), 1000);
        c.due("1001 steps", Check.runs(x, "C0+1+1+1+1" + most), SPENT);
        c.due("1002 steps", Check.runs(x, "+1+1+1+1+1" + most), SPENT);
        c.due("the text is read", x.told(5), 0);
        c.due("the earlier run is kept", x.ran(0), 1000);
        c.due("and its value", Check.valueOf(x), (3 * 128 + 6 * 16 + 4) + ".");
        c.due("what is open comes too late", Check.runs(x, "P+1+1+1+1" + most + "G2"), SPENT);
        c.due("what is open comes first", Check.runs(x, "PG2+1+1+1+1" + most), OPEN);
        c.due("open as the last step", Check.runs(x, "P+1+1+1" + most + "G2"), OPEN);
    }

    private static String sum(int n, String part) {
        return n == 1 ? part : "+" + sum(n - n / 2, part) + sum(n / 2, part);
    }

    /** A nesting of 60 is allowed, one of 61 is not. */
    private static void deepEdge() {
        BranchTypes x = new BranchTypes();
        Check.signs(x, "i,:i");
        Check.bodies(x, 0, "?<a1aG0-a1");
        // The call with the number n, at nesting 1, leads to a call at 1 + 2 * n, and in its body to a number at 4 + 2 * n.
        c.due("n is 2", Check.runs(x, "G02") * 100 + x.ran(1), 2308);
        c.due("n is 28", Check.runs(x, "G0+9+9+91") > 0 ? x.ran(1) : 0, 60);
        c.due("n is 28, one deeper", Check.runs(x, "+1G0+9+9+91"), DEEP);
        c.due("n is 29", Check.runs(x, "G0+9+9+92"), DEEP);
        c.due("n is 27, one deeper", Check.runs(x, "+1G0+9+99") > 0 ? x.ran(1) : 0, 59);
        c.due("n is 27, two deeper", Check.runs(x, "+1+1G0+9+99") > 0 ? x.ran(1) : 0, 60);
        c.due("n is 27, three deeper", Check.runs(x, "+1+1+1G0+9+99"), DEEP);
        c.due("the text is read", x.told(5), 0);
        c.due("the run that was kept", x.ran(1), 60);
        Check.signs(x, ":u");
        c.due("60 in the text", Check.runs(x, "L".repeat(59) + "G1"), OPEN);
        c.due("61 in the text", Check.runs(x, "L".repeat(60) + "G1"), DEEP);
        c.due("99 in the text", Check.runs(x, "L".repeat(98) + "G1"), DEEP);
        c.due("not if not evaluated", Check.runs(x, "?T1" + "+".repeat(47) + "1".repeat(48)), 3);
    }

    /** The step that would be too deep is the 1000th, and then the 1001st. */
    private static void spentBeforeDeep() {
        BranchTypes x = new BranchTypes();
        Check.constructs(x, 0, "u,:u");
        Check.signs(x, "i,:i");
        Check.signs(x, ":i");
        Check.bodies(x, 0, "G0a");
        Check.bodies(x, 1, sum(43, "1"));
        // 10 calls of 86 steps, 9 sums, and 6 more with a number each.
        String first = "+1+1+1+1+1+1" + sum(10, "G1");
        c.due("881 steps", Check.runs(x, first), 881);
        // A pair, the first part, then 59 calls and 58 parameters from nesting 2 to 60; then a parameter at 61.
        c.due("1000th", Check.runs(x, "P" + first + "G01"), DEEP);
        c.due("1001st", Check.runs(x, "PC0" + first + "G01"), SPENT);
    }

    private static void keptFromEarlier() {
        BranchTypes x = new BranchTypes();
        Check.signs(x, "i,:i");
        Check.runs(x, "P1T");
        Check.runs(x, "G01");
        c.due("not by an open one", Check.typeOf(x) + Check.valueOf(x), "pibP1.T");
        Check.runs(x, "+T1");
        c.due("not by a fault", Check.typeOf(x) + Check.valueOf(x), "pibP1.T");
        x.begins(0);
        c.due("not by a beginning", Check.typeOf(x) + Check.valueOf(x), "pibP1.T");
        Check.runs(x, "F");
        c.due("but by a shorter one", Check.typeOf(x) + Check.valueOf(x), "bF");
        c.due("wholly", x.ran(0) * 1000 + x.ran(1) * 100 + x.ran(2) * 10 + x.ran(3), 1111);
    }

    private static void keptBytes() {
        BranchTypes x = new BranchTypes();
        Check.signs(x, "u,:puu");
        Check.bodies(x, 0, "Paa");
        Check.runs(x, "G0G0G0G0G0G03");
        c.due("bytes of the type", x.ran(2), 127);
        c.due("bytes of the value", x.ran(3), 63 + 128);
        Check.runs(x, "G0G0G0G0G0G0G03");
        c.due("200 of the type", x.ran(2), 200);
        c.due("200 of the value", x.ran(3), 200);
        c.due("the first ones", Check.valueOf(x).substring(0, 11), "PPPPPPP3.3.");
        c.due("there is a last one", x.typeAt(199) > 0 && x.valueAt(199) > 0 ? 1 : 0, 1);
        c.due("and none behind", x.typeAt(200) + x.valueAt(200), 2 * NONE);
        x = new BranchTypes();
        Check.signs(x, "u,:puu");
        Check.bodies(x, 0, "Paa");
        Check.runs(x, "G0G0G0G0G0G0G0G0G0G0G0G0G0G0G0G0G0G0G0G0G0G0G0T");
        c.due("much more of the type", x.ran(2), 200);
        c.due("much more of the value", x.ran(3), 200);
        c.due("deep at first", Check.valueOf(x).substring(0, 25), "PPPPPPPPPPPPPPPPPPPPPPPTT");
        c.due("so is its type", Check.typeOf(x).substring(0, 25), "pppppppppppppppppppppppbb");
    }

    private static void matches() {
        BranchTypes x = new BranchTypes();
        x.begins(3);
        run(x, "G0C17C0", 7, "i", "7.");
        run(x, "G1C17C18C0C12C13C0", 36, "d0pipii", "C19.C111.C0");
        run(x, "G1C0C0", 6, "d0i", "C0");
        BranchTypes y = new BranchTypes();
        Check.constructs(y, 1, "u,i,u,:u");
        Check.constructs(y, 1, "u,:u");
        Check.signs(y, "d1i,i,:i");
        Check.bodies(y, 0, "Ma{0-b-ce1Ma{0c1+bd}}");
        run(y, "G0C09254", 13, "i", "0.");
        run(y, "G0C00259", 13, "i", "14.");
        run(y, "G0C173", 11, "i", "10.");
    }

    private static void outOfRange() {
        BranchTypes x = new BranchTypes();
        Check.runs(x, "P12");
        c.due("ran 4", x.ran(4), BAD);
        c.due("ran -1", x.ran(-1), BAD);
        c.due("type -1", x.typeAt(-1), BAD);
        c.due("value -1", x.valueAt(-1), BAD);
        c.due("type 2", x.typeAt(2), 'i');
        c.due("type 3", x.typeAt(3), NONE);
        c.due("value 4", x.valueAt(4), '.');
        c.due("value 5", x.valueAt(5), NONE);
        c.due("far away", x.valueAt(Integer.MAX_VALUE) + x.typeAt(Integer.MAX_VALUE), 2 * NONE);
        c.due("bads", x.told(0), 4);
    }
}
