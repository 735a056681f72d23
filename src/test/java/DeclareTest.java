/** Promises 16 to 21 and 23 to 25: what is declared, and the texts it is declared with. */
public final class DeclareTest {
    private static final int BAD = BranchTypes.BAD, NO = BranchTypes.NO, FULL = BranchTypes.FULL;

    public static void main(String[] args) {
        Check c = new Check("DeclareTest");
        begins(c);
        preparedBodies(c);
        beginsKeepsTheRest(c);
        type(c);
        constructs(c);
        signs(c);
        signatureFaults(c);
        signatureLength(c);
        bodies(c);
        constructor(c);
        function(c);
        why(c);
        c.end();
    }

    private static void begins(Check c) {
        BranchTypes x = new BranchTypes();
        c.due("set 1", x.begins(1), 5);
        c.due("functions", x.told(4), 1);
        c.due("body", x.function(0, 2), 22);
        c.due("fields", x.constructor(2, 1), 3);
        c.due("variables", x.constructor(3, 2), 2);
        c.due("set 2", x.begins(2), 1);
        c.due("functions", x.told(4), 3);
        c.due("bodies", x.function(0, 2) * 100 + x.function(1, 2) * 10 + x.function(2, 2), 333);
        c.due("variables", x.function(2, 1), 3);
        c.due("set 3", x.begins(3), 2);
        c.due("functions", x.told(4), 2);
        c.due("bodies", x.function(0, 2) * 100 + x.function(1, 2), 312);
        c.due("set 4", x.begins(4), BAD);
        c.due("set -1", x.begins(-1), BAD);
        c.due("set 3 still", x.told(3) * 10 + x.told(4), 22);
        c.due("set 0", x.begins(0), 0);
        c.due("nothing", x.told(3) + x.told(4), 0);
        c.due("family 0", x.begins(1) + x.constructor(4, 0), 5);
    }

    /** The prepared bodies count as bodies() would have counted them. */
    private static void preparedBodies(Check c) {
        String[][] sets = {
            {},
            {"Ma{0b1=G0b02?G0bG0cG0d3PG0bG0c4LG0b}"},
            {"Ma{0b}", "Ma{0C0}", "Ma{0b}"},
            {"Ma{1b}", "Ma{0C01Mb{1C1+ceG1df}}"}};
        for (int k = 1; k <= 3; k++) {
            BranchTypes x = new BranchTypes();
            x.begins(k);
            for (int f = 0; f < sets[k].length; f++) {
                int count = x.function(f, 2);
                c.due("set " + k + " function " + f, Check.bodies(x, f, sets[k][f]), count);
            }
        }
    }

    private static void beginsKeepsTheRest(Check c) {
        BranchTypes x = new BranchTypes();
        x.made(0, 0, 0);
        x.opens();
        Check.runs(x, "+12");
        Check.runs(x, "a");
        x.told(9);
        Check.write(x, "Ma");
        x.begins(2);
        c.due("types", x.bench(0), 1);
        c.due("depth", x.bench(1), 1);
        c.due("text", x.told(5), 2);
        c.due("why", x.why(), 1);
        c.due("ran", x.ran(0), 3);
        c.due("bads", x.told(0), 1);
        Check.write(x, "{0b}");
        c.due("the text is whole", x.bodies(2), 3);
    }

    private static void type(Check c) {
        BranchTypes x = new BranchTypes();
        c.due("-1", x.type(-1), BAD);
        c.due("128", x.type(128), BAD);
        c.due("0", x.type(0), 1);
        c.due("127", x.type(127), 2);
        c.due("clear", x.clear(), 2);
        c.due("cleared", x.clear(), 0);
        for (int n = 1; n <= 100; n++) {
            c.due("byte " + n, x.type(48), n);
        }
        c.due("one more", x.type(48), FULL);
        c.due("bad before full", x.type(128), BAD);
        c.due("length", x.told(5), 100);
        c.due("clear all", x.clear(), 100);
        c.due("then", x.type(48), 1);
    }

    private static void constructs(Check c) {
        BranchTypes x = new BranchTypes();
        Check.write(x, ":i");
        c.due("family 4", x.constructs(4), BAD);
        c.due("family -1", x.constructs(-1), BAD);
        c.due("the text stays", x.told(5), 2);
        c.due("family 3", x.constructs(3), 0);
        c.due("the text is read", x.told(5), 0);
        for (int k = 1; k < 10; k++) {
            c.due("constructor " + k, Check.constructs(x, k % 4, "u,:pui"), k);
        }
        c.due("an eleventh", Check.constructs(x, 0, ":i"), FULL);
        c.due("bad before full", x.constructs(4), BAD);
        c.due("the text stays", x.told(5), 2);
        c.due("signs", x.signs(), 0);
        Check.write(x, ":i");
        c.due("no before full", x.constructs(0), NO);
        c.due("bad before no", x.constructs(7), BAD);
        c.due("the text stays", x.told(5), 2);
        c.due("ten", x.told(3), 10);
        x.begins(0);
        c.due("none", x.constructs(0), 0);
    }

    private static void signs(Check c) {
        BranchTypes x = new BranchTypes();
        for (int f = 0; f < 6; f++) {
            c.due("function " + f, Check.signs(x, "u,v,w,:puv"), f);
            c.due("the text is read", x.told(5), 0);
        }
        c.due("a seventh", Check.signs(x, ":i"), FULL);
        c.due("the text stays", x.told(5), 2);
        c.due("wrong, but full", Check.signs(x, "x"), FULL);
        c.due("the text stays", x.clear(), 3);
        c.due("fulls", x.told(2), 2);
        x.begins(0);
        c.due("a fault", Check.signs(x, "i:i"), -11);
        c.due("empties the text", x.told(5), 0);
        c.due("declares nothing", x.told(4), 0);
    }

    private static void signatureFaults(Check c) {
        String[] wrong = {"", ":", "i", "i,", "i,i", "i,i,i,", "i,i,i,i", "x", ":x", ":d", ":d4i", ":d0", ":p", ":pi", ":ii", ":i,",
            "i,:i:", "i:i", ",:i", "d0,:i", "pi,:i", "i,b,u,:v ", "U,:i", "i,,:i", ":dd0i"};
        int[] place = {0, 1, 1, 2, 3, 6, 6, 0, 1, 2, 2, 3, 2, 3, 2, 2,
            4, 1, 0, 2, 2, 8, 0, 2, 2};
        BranchTypes x = new BranchTypes();
        for (int n = 0; n < wrong.length; n++) {
            c.due("constructs " + wrong[n], Check.constructs(x, 0, wrong[n]), -10 - place[n]);
            c.due("why " + wrong[n], x.why(), 1);
            c.due("signs " + wrong[n], Check.signs(x, wrong[n]), -10 - place[n]);
            c.due("nothing of " + wrong[n], x.told(3) + x.told(4) + x.told(5), 0);
        }
        String[] right = {":i", ":b", ":u", "i,:i", "i,b,:u", "i,b,u,:v", ":puv", ":d3d0w", "ppuvw,d1piu,d2b,:pd0ii"};
        for (int n = 0; n < right.length; n++) {
            c.due("constructs " + right[n], Check.constructs(x, 0, right[n]), n);
        }
    }

    private static void signatureLength(Check c) {
        BranchTypes x = new BranchTypes();
        String full = "pppuuuu,pppuuuu,:ppuuppuu";
        c.due("its length", full.length(), 25);
        c.due("25 bytes", Check.signs(x, full), -34);
        c.due("24 bytes", Check.signs(x, "pppuuuu,pppuuuu,:ppuupuu"), 0);
        c.due("24 bytes and too early an end", Check.signs(x, "pppuuuu,pppuuuu,:ppuuppu"), -34);
        c.due("many bytes", Check.signs(x, "pppuuuu,pppuuuu,:ppuuppppppppppppppppppppuuuuuuuuuu"), -34);
        c.due("a digit that would be the 25th", Check.signs(x, "pppuuuu,pppuuuu,:ppuupud0i"), -34);
        c.due("a colon that would be the 25th", Check.signs(x, "pppuuuu,pppuuuu,ppuupuu,:i"), -34);
        c.due("a fault before", Check.signs(x, "pppuuuu,pppuuuu,:ppuxpppppppppppppu"), -30);
        c.due("a byte behind", Check.signs(x, ":iiiiiiiiiiiiiiiiiiiiiiiiiiiiiiiii"), -12);
        c.due("one function", x.told(4), 1);
    }

    private static void bodies(Check c) {
        BranchTypes x = new BranchTypes();
        Check.write(x, "a");
        c.due("no function", x.bodies(0), BAD);
        c.due("the text stays", x.told(5), 1);
        x.clear();
        Check.signs(x, "i,b,:i");
        c.due("no function", x.bodies(1), BAD);
        c.due("nor this", x.bodies(-1), BAD);
        c.due("open", Check.runs(x, "G01T"), BranchTypes.OPEN);
        c.due("a body", Check.bodies(x, 0, "?b+a1-aa"), 8);
        c.due("the text is read", x.told(5), 0);
        c.due("it runs", Check.runs(x, "G07T"), 8);
        c.due("its value", Check.valueOf(x), "8.");
        c.due("a fault", Check.bodies(x, 0, "?ab1"), -11);
        c.due("empties the text", x.told(5), 0);
        c.due("why", x.why(), 3);
        c.due("the body stays", x.function(0, 2), 8);
        c.due("it still runs", Check.runs(x, "G07F"), 8);
        c.due("another body", Check.bodies(x, 0, "a"), 1);
        c.due("it runs", Check.runs(x, "G07F"), 4);
        c.due("no text", Check.bodies(x, 0, ""), -10);
        c.due("why", x.why(), 1);
        c.due("a body of its own result type", Check.bodies(x, 0, "b"), -10);
        c.due("calls itself", Check.bodies(x, 0, "?b0G0aT"), 6);
    }

    private static void constructor(Check c) {
        BranchTypes x = new BranchTypes();
        Check.constructs(x, 2, "u,pvu,w,:d0i");
        Check.constructs(x, 0, "i,u,:u");
        c.due("family", x.constructor(0, 0), 2);
        c.due("fields", x.constructor(0, 1), 3);
        c.due("variables", x.constructor(0, 2), 3);
        c.due("family", x.constructor(1, 0), 0);
        c.due("fields", x.constructor(1, 1), 2);
        c.due("variables", x.constructor(1, 2), 1);
        c.due("bad", x.constructor(2, 0), BAD);
        c.due("bad", x.constructor(-1, 0), BAD);
        c.due("bad", x.constructor(0, 3), BAD);
        c.due("bad", x.constructor(0, -1), BAD);
        c.due("bads", x.told(0), 4);
    }

    private static void function(Check c) {
        BranchTypes x = new BranchTypes();
        Check.signs(x, ":i");
        Check.signs(x, "w,w,puw,:v");
        c.due("parameters", x.function(0, 0), 0);
        c.due("variables", x.function(0, 1), 0);
        c.due("no body", x.function(0, 2), 0);
        c.due("parameters", x.function(1, 0), 3);
        c.due("variables", x.function(1, 1), 3);
        Check.bodies(x, 0, "+12");
        c.due("body", x.function(0, 2), 3);
        c.due("bad", x.function(2, 0), BAD);
        c.due("bad", x.function(-1, 0), BAD);
        c.due("bad", x.function(0, 3), BAD);
        c.due("bad", x.function(0, -1), BAD);
        x.begins(0);
        Check.signs(x, ":i");
        c.due("a new one has no body", x.function(0, 2), 0);
    }

    private static void why(Check c) {
        BranchTypes x = new BranchTypes();
        c.due("no fault yet", x.why(), 0);
        Check.runs(x, "1");
        c.due("still none", x.why(), 0);
        Check.runs(x, "+T1");
        c.due("unequal", x.why(), 3);
        Check.runs(x, "1");
        c.due("the latest", x.why(), 3);
        x.told(-1);
        c.due("an error is none", x.why(), 3);
        Check.runs(x, "");
        c.due("the text", x.why(), 1);
    }
}
