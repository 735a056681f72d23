/** RUNNING, and promises 22 and 26 to 28 and 30: a test of each sentence that names an edge; it stands above its test. */
public final class RunEdgeTest {
    private static final int NONE = BranchTypes.NONE, BAD = BranchTypes.BAD;
    private static final int OPEN = BranchTypes.OPEN, SPENT = BranchTypes.SPENT, DEEP = BranchTypes.DEEP;
    private static Check c;

    public static void main(String[] args) {
        c = new Check("RunEdgeTest");
        noRunYet();
        overflow();
        digits();
        comparisons();
        chosenOnly();
        matches();
        scopes();
        afterCalls();
        afterEnds();
        parts();
        steps();
        spentAnywhere();
        nesting();
        deepAnywhere();
        deepNotEvaluated();
        openWhenPartsAreDone();
        openWithin();
        latestRun();
        values();
        preparedRuns();
        twoHundredOfAValue();
        twoHundredOfAType();
        bytesAt();
        digest();
        c.end();
    }

    private static void run(BranchTypes x, String text, int steps, int nesting, String type, String value) {
        c.due("runs " + text, Check.runs(x, text), steps);
        c.due("steps of " + text, x.ran(0), steps);
        c.due("nesting of " + text, x.ran(1), nesting);
        c.due("type of " + text, Check.typeOf(x), type);
        c.due("value of " + text, Check.valueOf(x), value);
        c.due("bytes of " + text, x.ran(2) * 1000 + x.ran(3), type.length() * 1000 + value.length());
    }

    private static void ends(BranchTypes x, String text, int due) {
        String before = x.ran(0) + Check.typeOf(x) + Check.valueOf(x);
        c.due("runs " + text, Check.runs(x, text), due);
        c.due("text after " + text, x.told(5), 0);
        c.due("the run before " + text, x.ran(0) + Check.typeOf(x) + Check.valueOf(x), before);
    }

    /** ran: "0 if there was no such run"; typeAt and valueAt: "NONE if not so many bytes are kept". */
    private static void noRunYet() {
        BranchTypes x = new BranchTypes();
        Check.signs(x, ":i");
        for (String text : new String[] {"", "x", "+TT", "G0"}) {
            Check.runs(x, text);
            c.due("ran " + text, x.ran(0) + x.ran(1) + x.ran(2) + x.ran(3), 0);
            c.due("byte of " + text, x.typeAt(0) + x.valueAt(0), 2 * NONE);
        }
        c.due("four faults and OPEN are no errors", x.told(0) + x.told(1) + x.told(2), 0);
    }

    /** "Numbers are ints; sums and differences overflow as in Java." */
    private static void overflow() {
        BranchTypes x = new BranchTypes();
        Check.signs(x, "i,:i");
        Check.signs(x, ":i");
        Check.signs(x, ":i");
        Check.bodies(x, 0, "+aa");
        Check.bodies(x, 1, "G0".repeat(31) + "1");
        Check.bodies(x, 2, "-G11");
        // 31 calls with 4 steps each, but the last argument is within 31 calls.
        int least = 2 + 31 * 4;
        run(x, "G1", least, 34, "i", "-2147483648.");
        run(x, "G2", least + 3, 36, "i", "2147483647.");
        run(x, "+G21", least + 5, 37, "i", "-2147483648.");
        run(x, "-G11", least + 2, 35, "i", "2147483647.");
        run(x, "-0G1", least + 2, 35, "i", "-2147483648.");
        run(x, "+G1G1", 2 * least + 1, 35, "i", "0.");
        run(x, "-0G2", least + 5, 37, "i", "-2147483647.");
        run(x, "+G2G2", 2 * least + 7, 37, "i", "-2.");
        run(x, "-G2G1", 2 * least + 4, 37, "i", "-1.");
        run(x, "-G1G2", 2 * least + 4, 37, "i", "1.");
        run(x, "<G1G2", 2 * least + 4, 37, "b", "T");
        run(x, "<G2G1", 2 * least + 4, 37, "b", "F");
        run(x, "<G10", least + 2, 35, "b", "T");
        run(x, "<0G1", least + 2, 35, "b", "F");
        run(x, "=G1-0G1", 2 * least + 3, 36, "b", "T");
        run(x, "=G1G2", 2 * least + 4, 37, "b", "F");
    }

    /** "an int with its digits, a minus sign in front if it is negative, and a full stop". */
    private static void digits() {
        BranchTypes x = new BranchTypes();
        String tens = "";
        String zeros = "";
        int steps = 1;
        for (int n = 0; n <= 9; n++) {
            x = new BranchTypes();
            Check.signs(x, "i,:i");
            Check.bodies(x, 0, "+++aa+aa+++aa+aa+aa");
            c.due("10 to the " + n, Check.runs(x, tens + "1"), steps);
            c.due("is", Check.valueOf(x), "1" + zeros + ".");
            Check.runs(x, "-0" + tens + "1");
            c.due("less than 0", Check.valueOf(x), "-1" + zeros + ".");
            Check.runs(x, "-" + tens + "11");
            c.due("one less", Check.valueOf(x), (zeros.isEmpty() ? "0" : zeros.replace('0', '9')) + ".");
            Check.runs(x, "+" + tens + "9" + tens + "8");
            c.due("17 times", Check.valueOf(x), (n == 9 ? "-179869184" : "17" + zeros) + ".");
            tens += "G0";
            zeros += "0";
            steps += 20;
        }
        c.due("10 to the 10", Check.runs(x, tens + "1"), 201);
        c.due("does not fit", Check.valueOf(x), "1410065408.");
    }

    private static void comparisons() {
        for (int a = 0; a <= 9; a++) {
            BranchTypes x = new BranchTypes();
            for (int b = 0; b <= 9; b += 3) {
                c.due("less", Check.runs(x, "<" + a + b), 3);
                c.due(a + "<" + b, Check.valueOf(x), a < b ? "T" : "F");
                c.due("equal", Check.runs(x, "=" + a + b), 3);
                c.due(a + "=" + b, Check.valueOf(x), a == b ? "T" : "F");
            }
        }
    }

    /** "Of the second and third E of ? only the chosen one is evaluated". */
    private static void chosenOnly() {
        BranchTypes x = new BranchTypes();
        Check.signs(x, ":i");
        run(x, "?T1+11", 3, 2, "i", "1.");
        run(x, "?F1+11", 5, 3, "i", "2.");
        run(x, "?T+111", 5, 3, "i", "2.");
        run(x, "?F+111", 3, 2, "i", "1.");
        run(x, "?<121G0", 5, 3, "i", "1.");
        run(x, "?<21G01", 5, 3, "i", "1.");
        run(x, "??TFT12", 5, 3, "i", "2.");
        run(x, "?T?F12G0", 5, 3, "i", "2.");
        ends(x, "?TG01", OPEN);
        ends(x, "?F1G0", OPEN);
        ends(x, "??=G01TF12", OPEN);
        ends(x, "?=G0112", OPEN);
    }

    /** "of a match, E and then the E of the case of the constructor that made the value". */
    private static void matches() {
        BranchTypes x = new BranchTypes();
        Check.constructs(x, 0, ":i");
        Check.constructs(x, 0, "i,:i");
        Check.constructs(x, 0, "i,i,i,:i");
        Check.signs(x, "d0i,i,:i");
        Check.signs(x, ":d0i");
        c.due("a body", Check.bodies(x, 0, "Ma{2-c-de0b1+cb}"), 11);
        run(x, "G0C03", 6, 3, "i", "3.");
        run(x, "G0C153", 9, 4, "i", "8.");
        run(x, "G0C29423", 13, 5, "i", "7.");
        run(x, "+1MC0{05162+78}", 5, 3, "i", "6.");
        run(x, "+1MC14{05162+78}", 6, 4, "i", "7.");
        run(x, "+1MC2123{05162+78}", 10, 4, "i", "16.");
        run(x, "+1M?TC0C0{051627}", 7, 4, "i", "6.");
        run(x, "+1MC0{0+1+121121}", 9, 5, "i", "5.");
        run(x, "+1M?TC0G1{051627}", 7, 4, "i", "6.");
        ends(x, "+1M?FC0G1{051627}", OPEN);
        ends(x, "+1MG1{051627}", OPEN);
    }

    /** A value of the scope is that of the innermost match and call, and what a case adds is gone behind it. */
    private static void scopes() {
        BranchTypes x = new BranchTypes();
        Check.constructs(x, 0, "i,i,:i");
        Check.constructs(x, 1, "i,:i");
        Check.signs(x, "d0i,d1i,:i");
        Check.signs(x, "i,i,i,:i");
        Check.bodies(x, 1, "-a-bc");
        // Two matches one after another, one within another, and calls within cases.
        c.due("in order", Check.bodies(x, 0, "-Ma{0-cd}Mb{1c}"), 9);
        run(x, "G0C092C13", 15, 5, "i", "4.");
        c.due("thrice", Check.bodies(x, 0, "+Ma{0c}+Ma{0d}Mb{1c}"), 11);
        run(x, "G0C092C13", 17, 5, "i", "14.");
        c.due("within", Check.bodies(x, 0, "Ma{0Mb{1G1cde}}"), 8);
        run(x, "G0C092C13", 6 + 8 + 5, 7, "i", "10.");
        c.due("within a call", Check.bodies(x, 0, "Ma{0G1Mb{1c}Mb{1e}d}"), 10);
        c.due("why", x.why(), 0);
        run(x, "G0C092C13", 6 + 10 + 5, 6, "i", "8.");
        c.due("in the matched part", Check.bodies(x, 0, "Ma{0+Mb{1e}c}"), 7);
        run(x, "G0C092C13", 13, 5, "i", "12.");
        c.due("a call, then the scope", Check.bodies(x, 0, "Ma{0-G1cd1-dc}"), 10);
        run(x, "G0C092C13", 6 + 10 + 5, 7, "i", "15.");
        c.due("itself", Check.bodies(x, 0, "Mb{1?<c1Ma{0-de}G0C0c0C1-c1}"), 19);
        run(x, "G0C092C10", 6 + 11, 6, "i", "7.");
        run(x, "G0C092C12", 6 + 14 + 14 + 11, 12, "i", "1.");
    }

    /** What a call or a case has added to a scope is gone behind it. */
    private static void afterCalls() {
        BranchTypes x = new BranchTypes();
        Check.constructs(x, 0, "i,:i");
        Check.signs(x, "d0i,i,:i");
        Check.signs(x, "i,i,i,:i");
        Check.bodies(x, 1, "-a-bc");
        c.due("a match behind a call", Check.bodies(x, 0, "+G1bbbMa{0c}"), 8);
        run(x, "G0C072", 4 + 8 + 5, 6, "i", "9.");
        c.due("a match behind two of them", Check.bodies(x, 0, "+G1G1bbb12Ma{0-cb}"), 13);
        run(x, "G0C072", 4 + 13 + 5 + 5, 7, "i", "8.");
        c.due("a call behind a match", Check.bodies(x, 0, "+Ma{0c}G1b1b"), 8);
        run(x, "G0C072", 4 + 8 + 5, 6, "i", "10.");
        // The scope of the text is empty, but for what a case adds.
        run(x, "+1MC05{0a}", 6, 4, "i", "6.");
        run(x, "+G1123MC05{0-aMC09{0-ba}}", 16 + 5, 6, "i", "3.");
    }

    /** A run begins anew, whatever the runs before it have left where they ended. */
    private static void afterEnds() {
        BranchTypes x = new BranchTypes();
        Check.constructs(x, 0, "i,i,i,:i");
        Check.signs(x, "i,i,i,:i");
        Check.signs(x, "d0i,i,i,:i");
        Check.signs(x, "i,i,i,:i");
        Check.bodies(x, 0, "G1C0abcbc");
        Check.bodies(x, 1, "Ma{0G0def}");
        for (int n = 0; n < 8; n++) {
            ends(x, "G0123", DEEP);
            ends(x, "G2G212323", OPEN);
        }
        run(x, "+1MC0789{0-a-bc}", 12, 5, "i", "9.");
        Check.bodies(x, 2, "-a-bc");
        run(x, "G2G2789G27894", 10 + 15, 5, "i", "4.");
        // 49 parts are begun with each of these, and 909 steps done with each of those.
        BranchTypes y = new BranchTypes();
        Check.signs(y, ":i");
        for (int n = 0; n < 4; n++) {
            c.due("open behind 49 parts", Check.runs(y, "P1".repeat(49) + "G0"), OPEN);
        }
        run(y, "PP34P56", 7, 3, "ppiipii", "PP3.4.P5.6.");
        y = hundreds();
        c.due("909 steps", Check.runs(y, "G1"), 909);
        c.due("909 steps", Check.runs(y, "G1"), 909);
        c.due("909 steps", Check.runs(y, "G1"), 909);
        c.due("their value", Check.valueOf(y), "450.");
        run(y, "PP34P56", 7, 3, "ppiipii", "PP3.4.P5.6.");
    }

    /** "... evaluated, parts from left to right"; "of a call, the parts and then the body of the function". */
    private static void parts() {
        BranchTypes x = new BranchTypes();
        Check.constructs(x, 0, "i,i,i,:i");
        Check.signs(x, ":i");
        Check.signs(x, ":i");
        Check.signs(x, "i,i,i,:i");
        Check.bodies(x, 1, "G1");
        for (String head : new String[] {"+", "-", "<", "=", "P"}) {
            ends(x, head + "G0G1", OPEN);
            ends(x, head + "G1G0", DEEP);
        }
        for (String head : new String[] {"C0", "G2"}) {
            ends(x, head + "1G0G1", OPEN);
            ends(x, head + "1G1G0", DEEP);
            ends(x, head + "G01G1", OPEN);
            ends(x, head + "G11G0", DEEP);
            ends(x, head + "G0G11", OPEN);
            ends(x, head + "G1G01", DEEP);
        }
        ends(x, "G2123", OPEN);
        Check.bodies(x, 2, "P12");
        ends(x, "G2123", OPEN);
        Check.bodies(x, 2, "G0");
        ends(x, "G2G1G1G1", DEEP);
        Check.bodies(x, 2, "G1");
        ends(x, "G2G0G0G0", OPEN);
        Check.bodies(x, 2, "1");
        run(x, "G2123", 5, 2, "i", "1.");
    }

    private static String sum(int n) {
        return n == 1 ? "1" : "+" + sum(n - n / 2) + sum(n / 2);
    }

    /** A function 0 that takes 100 steps with its call, a function 1 that takes 909, one of two steps, one without a body. */
    private static BranchTypes hundreds() {
        BranchTypes x = new BranchTypes();
        Check.constructs(x, 0, "i,:i");
        Check.constructs(x, 1, ":i");
        for (int f = 0; f < 4; f++) {
            Check.signs(x, ":i");
        }
        c.due("99 expressions", Check.bodies(x, 0, sum(50)), 99);
        c.due("9 calls", Check.bodies(x, 1, "+".repeat(8) + "G0".repeat(9)), 17);
        c.due("a number", Check.bodies(x, 2, "5"), 1);
        return x;
    }

    /** "If there are more than 1000 steps, the run ends with SPENT as soon as the next one begins." */
    private static void steps() {
        BranchTypes x = hundreds();
        // A call of function 1 takes 1 + 8 + 900 steps.
        c.due("909 steps", Check.runs(x, "G1"), 909);
        // With a sum and 89 steps of another one they are 999; a constructor makes them 1000.
        String most = "+G1" + sum(45);
        c.due("999 steps", Check.runs(x, most), 999);
        c.due("1000 steps", Check.runs(x, "C0" + most), 1000);
        c.due("are kept", x.ran(0), 1000);
        x = hundreds();
        ends(x, "LP" + most + "T", SPENT);
        ends(x, "+1" + most, SPENT);
        ends(x, "C0" + "+1" + most, SPENT);
        x = hundreds();
        c.due("1000 steps", Check.runs(x, "C0" + most), 1000);
        ends(x, "+1" + most, SPENT);
        c.due("the value of 1000 steps", Check.valueOf(x), "C0495.");
    }

    /** The 1001st step can be any expression: a part, what is chosen, the E of a case, a body. X takes 991 steps. */
    private static void spentAnywhere() {
        String[] right = {"PX+1+1+12", "PX?T?T?T1222", "PPX0?T?TC01C02C03", "+X+1+1MC01{02}", "+X?T?TMC01{02}33", "+X+1+1+1G2", "PXP1P1P2C01"};
        int[] steps = {999, 999, 1000, 1000, 1000, 1000, 1000};
        String[] wrong = {"PPX1+1+1+12", "PX?T?T?T+11222", "PPX1?T?T?T1222", "+X+1+1+1MC1{13}", "+XRP1+1+1G2", "+X+1+1+1+1G3"};
        BranchTypes x = hundreds();
        String many = "+G1" + sum(41);
        c.due("991 steps", Check.runs(x, many), 991);
        for (int n = 0; n < right.length; n++) {
            c.due(right[n], Check.runs(x, right[n].replace("X", many)), steps[n]);
            c.due("kept of " + right[n], x.ran(0), steps[n]);
            x = hundreds();
        }
        for (String text : wrong) {
            c.due("99 in between", Check.runs(x, sum(50)), 99);
            ends(x, text.replace("X", many), SPENT);
            x = hundreds();
        }
        c.due("open as the 1000th", Check.runs(x, "+XRP1+1+1G3".replace("X", many)), OPEN);
        c.due("open as the 1001st", Check.runs(x, "+X+1+1+1+1G3".replace("X", many)), SPENT);
    }

    /** "The nesting of the whole expression is 1; that of an expression within another one is greater by 1 ..." */
    private static void nesting() {
        BranchTypes x = new BranchTypes();
        Check.constructs(x, 0, "i,:i");
        Check.signs(x, "i,:i");
        Check.signs(x, ":i");
        Check.bodies(x, 0, "a");
        Check.bodies(x, 1, "+1+1G05");
        run(x, "1", 1, 1, "i", "1.");
        run(x, "+11", 3, 2, "i", "2.");
        run(x, "+1+11", 5, 3, "i", "3.");
        run(x, "++111", 5, 3, "i", "3.");
        run(x, "G01", 3, 2, "i", "1.");
        run(x, "G0G01", 5, 3, "i", "1.");
        run(x, "G0+11", 5, 3, "i", "2.");
        run(x, "LP1+11", 6, 4, "i", "1.");
        run(x, "C0+11", 4, 3, "d0i", "C02.");
        run(x, "?T1+11", 3, 2, "i", "1.");
        run(x, "?=1+1123", 7, 4, "i", "3.");
        run(x, "G1", 8, 5, "i", "7.");
        run(x, "G0G1", 10, 6, "i", "7.");
        run(x, "+1MC07{02}", 6, 4, "i", "3.");
    }

    /** What leads the nesting so much deeper than the place where it stands, and the steps that it takes. */
    private static final String[] DEEPER = {
        "1 0", "+11 1", "-1+11 2", "?T12 1", "?F12 1", "?T1+11 1", "?F1+11 2", "?=1123 2", "LP11 2", "RP1+11 3",
        "MC0{05} 1", "M?TC0C0{05} 2", "MC0{0+11} 2", "MC0{0MC0{05}} 2", "G1 1", "G21 1", "G31 2", "G2G21 2", "MG4{05} 2", "G5C0 2"};

    /** "If the nesting is more than 60, the run ends with DEEP as soon as such an expression begins". */
    private static void deepAnywhere() {
        for (String pair : DEEPER) {
            String text = pair.substring(0, pair.indexOf(' '));
            int more = Integer.parseInt(pair.substring(pair.indexOf(' ') + 1));
            BranchTypes x = new BranchTypes();
            Check.constructs(x, 0, ":i");
            String[] signatures = {":i", ":i", "i,:i", "i,:i", ":d0i", "d0i,:i"};
            String[] bodies = {"+1".repeat(20) + text, "5", "a", "+a1", "C0", "Ma{05}"};
            for (String s : signatures) {
                Check.signs(x, s);
            }
            for (int f = 5; f >= 0; f--) {
                c.due("body " + bodies[f], Check.bodies(x, f, bodies[f]) > 0 ? 1 : 0, 1);
            }
            // The call is at nesting n + 1, its body at n + 2, and what is tested at n + 22.
            c.due("59 with " + text, Check.runs(x, "+1".repeat(37 - more) + "G0") > 0 ? x.ran(1) : 0, 59);
            c.due("60 with " + text, Check.runs(x, "+1".repeat(38 - more) + "G0") > 0 ? x.ran(1) : 0, 60);
            ends(x, "+1".repeat(39 - more) + "G0", DEEP);
            c.due("60 again", Check.runs(x, "+1".repeat(38 - more) + "G0") > 0 ? x.ran(1) : 0, 60);
        }
    }

    /** What is not evaluated does not count, neither for steps nor for the nesting. */
    private static void deepNotEvaluated() {
        BranchTypes x = new BranchTypes();
        Check.constructs(x, 0, ":i");
        Check.constructs(x, 0, ":i");
        Check.signs(x, "i,:i");
        Check.bodies(x, 0, "G0a");
        run(x, "?T1G01", 3, 2, "i", "1.");
        run(x, "?FG011", 3, 2, "i", "1.");
        run(x, "+1MC0{051G01}", 5, 3, "i", "6.");
        ends(x, "+1MC1{051G01}", DEEP);
        run(x, "?F" + "-".repeat(47) + "1".repeat(48) + "7", 3, 2, "i", "7.");
        ends(x, "G01", DEEP);
    }

    /** "If a function that is called has no body, the run ends with OPEN when the parts ... have been evaluated." */
    private static void openWhenPartsAreDone() {
        BranchTypes x = new BranchTypes();
        Check.signs(x, "i,:i");
        Check.signs(x, "i,:i");
        Check.signs(x, ":i");
        Check.bodies(x, 1, "G1a");
        ends(x, "G2", OPEN);
        ends(x, "G01", OPEN);
        ends(x, "G0G11", DEEP);
        ends(x, "G0G0G11", DEEP);
        ends(x, "G1G01", OPEN);
        ends(x, "G0+1G11", DEEP);
        ends(x, "PG01G11", OPEN);
        Check.bodies(x, 2, "4");
        run(x, "G2", 2, 2, "i", "4.");
        Check.bodies(x, 0, "+aa");
        run(x, "G0G2", 6, 3, "i", "8.");
    }

    private static void openWithin() {
        BranchTypes x = new BranchTypes();
        Check.constructs(x, 0, "i,:i");
        Check.signs(x, ":i");
        Check.signs(x, ":i");
        Check.bodies(x, 1, "G0");
        Check.runs(x, "P1T");
        String[] texts = {"G0", "G1", "+G01", "+1G0", "-G11", "<G01", "=1G1", "PG01", "P1G0", "LPG01", "RPG01", "C0G0", "?=G0112", "?TG01", "?F1G0",
            "+1MC0G0{01}", "+1MC01{0G0}", "?T+G012"};
        for (String text : texts) {
            ends(x, text, OPEN);
        }
    }

    /** ran: "Returns a number of the latest run that ended with a value", whatever came behind it. */
    private static void latestRun() {
        BranchTypes x = new BranchTypes();
        Check.signs(x, "i,:i");
        run(x, "P+12T", 5, 3, "pib", "P3.T");
        ends(x, "G01", OPEN);
        ends(x, "+TT", -11);
        ends(x, "x", -10);
        ends(x, "", -10);
        Check.bodies(x, 0, "G0a");
        ends(x, "G01", DEEP);
        Check.bodies(x, 0, "+G0aG0a");
        ends(x, "G01", DEEP);
        x.begins(2);
        x.clear();
        x.opens();
        x.made(0, 0, 0);
        c.due("still there", x.ran(0) * 1000 + x.ran(1) * 100 + x.ran(2) * 10 + x.ran(3), 5334);
        run(x, "F", 1, 1, "b", "F");
        c.due("nothing is left of the longer one", x.typeAt(1) + x.valueAt(1), 2 * NONE);
        run(x, "P+12T", 5, 3, "pib", "P3.T");
    }

    /** "P and both parts of a pair; C, the digit of the constructor, and all fields." */
    private static void values() {
        BranchTypes x = new BranchTypes();
        for (int k = 0; k < 7; k++) {
            Check.constructs(x, k % 4, ":i");
        }
        Check.constructs(x, 3, "u,:u");
        Check.constructs(x, 2, "u,v,:puv");
        Check.constructs(x, 1, "u,v,w,:pupvw");
        run(x, "C6", 1, 1, "d2i", "C6");
        run(x, "C7T", 2, 2, "d3b", "C7T");
        run(x, "C8TC0", 3, 2, "d2pbd0i", "C8TC0");
        run(x, "C9-12P1FC84C5", 10, 3, "d1pippibd2pid1i", "C9-1.P1.FC84.C5");
        run(x, "PC71C7T", 5, 3, "pd3id3b", "PC71.C7T");
        run(x, "RPC71C7-09", 8, 5, "d3i", "C7-9.");
    }

    /** begins: the prepared functions do what their bodies say. */
    private static void preparedRuns() {
        BranchTypes x = new BranchTypes();
        x.begins(1);
        run(x, "G0C07", 6, 3, "i", "7.");
        run(x, "G0C1C01", 13, 6, "b", "F");
        run(x, "G0C1C00", 13, 6, "b", "T");
        run(x, "G0C2C1C02C03C04", 28, 9, "i", "4.");
        run(x, "G0C2C1C00C03C04", 28, 9, "i", "3.");
        run(x, "G0C3C01C1C00", 26, 9, "pib", "P1.T");
        run(x, "G0C4C3C05C06", 25, 9, "i", "5.");
        ends(x, "G0C1C1C01", -14);
        x = new BranchTypes();
        x.begins(2);
        run(x, "G0C05", 6, 3, "i", "5.");
        run(x, "G1C0", 5, 3, "d0p__", "C0");
        run(x, "G2C0C0", 6, 3, "d0p__", "C0");
        run(x, "G0G1C0T", 10, 4, "b", "T");
        x = new BranchTypes();
        x.begins(3);
        run(x, "G0C15C0", 7, 3, "i", "5.");
        run(x, "G1C15C0C12C0", 21, 7, "d0pii", "C17.C0");
        run(x, "G1C0C0", 6, 3, "d0i", "C0");
        ends(x, "G0C0", -12);
    }

    /** "Only the first 200 bytes of each are kept": of a value of 199, 200, 201 and many more bytes. */
    private static void twoHundredOfAValue() {
        BranchTypes x = new BranchTypes();
        Check.signs(x, "u,:puu");
        Check.bodies(x, 0, "Paa");
        // 64 numbers in 63 pairs: 191 bytes.
        String half = "PG0G0G0G0G0G01";
        int[] bytes = {199, 200, 201, 201, 202, 200};
        String[] rests = {"PP11T", "PP111", "PP11+99", "PP11-01", "PP11-0+55", "P-01-0+55"};
        String[] ends = {"PP1.1.T", "PP1.1.1.", "PP1.1.18", "PP1.1.-1", "PP1.1.-1", "P-1.-10."};
        for (int n = 0; n < rests.length; n++) {
            x = new BranchTypes();
            Check.signs(x, "u,:puu");
            Check.bodies(x, 0, "Paa");
            Check.runs(x, half + rests[n]);
            String value = Check.valueOf(x);
            c.due("kept of " + bytes[n], x.ran(3), Math.min(200, bytes[n]));
            c.due("as many", value.length(), Math.min(200, bytes[n]));
            c.due("the first ones", value.substring(0, 11), "PPPPPPP1.1.");
            c.due("the last ones", value.substring(192), ends[n].substring(0, value.length() - 192));
            c.due("the last one", x.valueAt(value.length() - 1), value.charAt(value.length() - 1));
            c.due("none behind it", x.valueAt(value.length()), NONE);
        }
        x = new BranchTypes();
        Check.signs(x, "u,:puu");
        Check.bodies(x, 0, "Paa");
        Check.runs(x, "G0".repeat(20) + "7");
        c.due("of millions of bytes", x.ran(3), 200);
        c.due("begins", Check.valueOf(x).substring(0, 24), "PPPPPPPPPPPPPPPPPPPP7.7.");
        c.due("none behind", x.valueAt(200) + x.valueAt(201), 2 * NONE);
    }

    /** The same of a type, whose length is always odd. */
    private static void twoHundredOfAType() {
        BranchTypes x = new BranchTypes();
        Check.signs(x, "u,:puu");
        Check.bodies(x, 0, "Paa");
        // Pairs of 127 and 63 bytes, in two more: 192 bytes come before what is left.
        String first = "PG0G0G0G0G0G0TPG0G0G0G0G0T";
        String[] rests = {"PG0TT", "G0G0T", "PG0G0TT", "PG0G0TPTT"};
        String[] types = {"ppbbb", "ppbbpbb", "pppbbpbbb", "pppbbpbbpbb"};
        for (int n = 0; n < rests.length; n++) {
            Check.runs(x, first + rests[n]);
            String type = Check.typeOf(x);
            int kept = Math.min(200, 192 + types[n].length());
            c.due("kept of " + rests[n], x.ran(2), kept);
            c.due("as many of the value", x.ran(3), kept);
            c.due("as many bytes", type.length(), kept);
            c.due("the last ones", type.substring(192), types[n].substring(0, kept - 192));
            c.due("the value alike", Check.valueOf(x), type.replace('p', 'P').replace('b', 'T'));
            c.due("the last one", x.typeAt(kept - 1), 'b');
            c.due("none behind it", x.typeAt(kept), NONE);
            x = new BranchTypes();
            Check.signs(x, "u,:puu");
            Check.bodies(x, 0, "Paa");
        }
        Check.runs(x, "G0".repeat(20) + "7");
        c.due("of millions of bytes", x.ran(2), 200);
        c.due("begins", Check.typeOf(x).substring(0, 22), "p".repeat(20) + "ii");
        c.due("none behind", x.typeAt(200) + x.typeAt(201), 2 * NONE);
    }

    /** typeAt, valueAt: "the index of the byte, from 0"; "NONE if not so many bytes are kept; BAD if i is negative". */
    private static void bytesAt() {
        BranchTypes x = new BranchTypes();
        Check.runs(x, "P5T");
        int[] type = {'p', 'i', 'b', NONE, NONE};
        int[] value = {'P', '5', '.', 'T', NONE};
        for (int i = 0; i < 5; i++) {
            c.due("type at " + i, x.typeAt(i), type[i]);
            c.due("value at " + i, x.valueAt(i), value[i]);
        }
        for (int i : new int[] {199, 200, 201, 1000, Integer.MAX_VALUE}) {
            c.due("type at " + i, x.typeAt(i), NONE);
            c.due("value at " + i, x.valueAt(i), NONE);
        }
        c.due("no error", x.told(0), 0);
        for (int i : new int[] {-1, -200, Integer.MIN_VALUE}) {
            c.due("type at " + i, x.typeAt(i), BAD);
            c.due("value at " + i, x.valueAt(i), BAD);
        }
        c.due("six errors", x.told(0), 6);
    }

    /** digest: "h becomes 31 * h plus the number, in long arithmetic with overflow". */
    private static void digest() {
        BranchTypes x = new BranchTypes();
        long h = 1545;
        for (int n = 0; n < 14; n++) {
            h *= 31;
        }
        c.due("of a new object", x.digest(), h);
        x.begins(3);
        x.type(200);
        x.type(-5);
        x.closes();
        x.opens();
        for (int n = 0; n < 60; n++) {
            x.made(n % 3 == 0 ? 7 : 8, 0, 0);
        }
        x.made(7, 0, 0);
        x.made(8, 0, 0);
        x.made(0, 0, 0);
        x.unites(58, 59);
        x.unites(57, 58);
        Check.runs(x, "+TF");
        Check.runs(x, "P+12T");
        Check.write(x, "12345");
        int[] first = {2, 1, 3, 2, 2, 5, 60, 1, 38};
        h = 1545;
        for (int n : first) {
            h = 31 * h + n;
        }
        for (int n = 0; n < 60; n++) {
            h = 31 * h + Math.min(n, 57);
        }
        for (int n : new int[] {3, 5, 3, 3, 4}) {
            h = 31 * h + n;
        }
        c.due("of much", x.digest(), h);
        c.due("asking for it changes nothing", x.digest(), h);
        x.closes();
        h = 1545;
        for (int n : new int[] {2, 1, 3, 2, 2, 5, 0, 0, 0, 3, 5, 3, 3, 4}) {
            h = 31 * h + n;
        }
        c.due("without types", x.digest(), h);
    }
}
