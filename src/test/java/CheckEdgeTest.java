/** CHECKING: a test of each rule and of each reason from 3 to 9, with what is just right beside what is wrong. */
public final class CheckEdgeTest {
    private static final int OPEN = BranchTypes.OPEN, DEEP = BranchTypes.DEEP, FULL = BranchTypes.FULL;
    private static Check c;

    public static void main(String[] args) {
        c = new Check("CheckEdgeTest");
        checkChoice();
        checkPair();
        checkPairWithoutPair();
        checkConstructor();
        checkCall();
        checkOthers();
        inferSimple();
        inferChoice();
        inferPair();
        inferParts();
        inferConstructorAndCall();
        inferMatch();
        matchedFirst();
        matchedType();
        foreignCases();
        impossibleCases();
        missingCases();
        orderOfMatch();
        assumedInACase();
        assumedInCases();
        newInACase();
        outerInACase();
        nestedMatches();
        typesOfItsOwn();
        afterFaults();
        asManyAsNecessary();
        c.end();
    }

    /** Constructors, each with its family in front, and functions. */
    private static BranchTypes with(String made, String called) {
        BranchTypes x = new BranchTypes();
        int count = 0;
        for (String s : made.split(" ")) {
            if (!s.isEmpty()) {
                c.due("constructor " + s, Check.constructs(x, s.charAt(0) - '0', s.substring(1)), count);
                count++;
            }
        }
        count = 0;
        for (String s : called.split(" ")) {
            if (!s.isEmpty()) {
                c.due("function " + s, Check.signs(x, s), count);
                count++;
            }
        }
        return x;
    }

    private static void right(BranchTypes x, int f, String text, int expressions) {
        c.due("body " + text, Check.bodies(x, f, text), expressions);
    }

    private static void wrong(BranchTypes x, int f, String text, int at, int reason) {
        c.due("body " + text, Check.bodies(x, f, text), -10 - at);
        c.due("why of body " + text, x.why(), reason);
    }

    private static void runs(BranchTypes x, String text, String type, String value) {
        c.due("runs " + text, Check.runs(x, text) > 0 ? 1 : 0, 1);
        c.due("type of " + text, Check.typeOf(x), type);
        c.due("value of " + text, Check.valueOf(x), value);
    }

    private static void wrong(BranchTypes x, String text, int at, int reason) {
        c.due("runs " + text, Check.runs(x, text), -10 - at);
        c.due("why of " + text, x.why(), reason);
    }

    /** "? E E E: the first E is checked against bool, then the second and the third one against t." */
    private static void checkChoice() {
        BranchTypes x = with("", ":i u,:u u,b,:b");
        right(x, 0, "?T12", 4);
        wrong(x, 0, "?112", 1, 3);
        wrong(x, 0, "?TT2", 2, 3);
        wrong(x, 0, "?T1T", 3, 3);
        wrong(x, 0, "?1TT", 1, 3);
        wrong(x, 0, "?TTP", 4, 1);
        right(x, 1, "?Taa", 4);
        wrong(x, 1, "?aaa", 1, 4);
        wrong(x, 1, "?T1a", 2, 4);
        wrong(x, 1, "?Ta1", 3, 4);
        right(x, 2, "?bbF", 4);
        wrong(x, 2, "?bab", 2, 4);
    }

    /** "P E E: if the representative of t is a pair, the first E is checked against its first argument, then ..." */
    private static void checkPair() {
        BranchTypes x = with("0:i 1:pii", ":pib :pipbi u,:puu d1u,:u");
        right(x, 0, "P1T", 3);
        wrong(x, 0, "PTT", 1, 3);
        wrong(x, 0, "P11", 2, 3);
        wrong(x, 0, "PT1", 1, 3);
        right(x, 1, "P1PT2", 5);
        wrong(x, 1, "P1P12", 3, 3);
        wrong(x, 1, "P1PTT", 4, 3);
        wrong(x, 1, "P12", 2, 3);
        right(x, 2, "Paa", 3);
        wrong(x, 2, "P1a", 1, 4);
        wrong(x, 2, "Pa1", 2, 4);
        // Its parts are checked, not inferred, so that they may be matches.
        right(x, 0, "PMC0{05}MC0{0T}", 7);
        // A variable that is assumed to be a pair has a pair as its representative.
        right(x, 3, "Ma{1P1MC0{02}}", 7);
        wrong(x, 3, "Ma{1P1T}", 6, 3);
    }

    /** "All others, and P if the representative of t is no pair: the type is inferred and then unified with t." */
    private static void checkPairWithoutPair() {
        BranchTypes x = with("0:i 0u,:u", ":i u,:u");
        wrong(x, 0, "P12", 0, 3);
        wrong(x, 0, "P+T12", 2, 3);
        wrong(x, 0, "P1+1T", 4, 3);
        wrong(x, 0, "P1MC0{02}", 2, 5);
        wrong(x, 1, "P12", 0, 4);
        wrong(x, 1, "P1PT2", 0, 4);
        // A type cannot contain itself, and that comes first.
        wrong(x, 1, "PaP1a", 0, 3);
        runs(x, "C1P12", "d0pii", "C1P1.2.");
        wrong(x, "C1P1MC0{02}", 4, 5);
    }

    /** "C: ... the family with its index, as the signature says, is unified with t; then each E is checked ..." */
    private static void checkConstructor() {
        BranchTypes x = with("0i,:i 0u,u,:puu 1:u", ":d0i :d0b :d1i u,:d0u u,:u :i");
        right(x, 0, "C01", 2);
        wrong(x, 0, "C0T", 2, 3);
        wrong(x, 1, "C01", 0, 3);
        wrong(x, 1, "C0T", 0, 3);
        wrong(x, 2, "C01", 0, 3);
        right(x, 2, "C2", 1);
        wrong(x, 0, "C2", 0, 3);
        wrong(x, 3, "C01", 0, 4);
        wrong(x, 3, "C112", 0, 4);
        wrong(x, 4, "C01", 0, 4);
        wrong(x, 5, "C01", 0, 3);
        BranchTypes y = with("0u,u,:puu", ":d0pii :d0pib u,:d0puu u,v,:d0puv");
        right(y, 0, "C012", 3);
        wrong(y, 0, "C0T2", 2, 3);
        wrong(y, 0, "C01T", 3, 3);
        wrong(y, 1, "C01T", 0, 3);
        right(y, 2, "C0aa", 3);
        wrong(y, 2, "C0a1", 3, 4);
        wrong(y, 2, "C01a", 2, 4);
        wrong(y, 3, "C0ab", 0, 4);
    }

    /** "G: likewise; the result type is unified with t; then each E is checked against the type of its parameter." */
    private static void checkCall() {
        BranchTypes x = with("", "b,:b u,:u u,v,:puv :i :b u,:pui");
        wrong(x, 3, "G01", 0, 3);
        wrong(x, 3, "G0T", 0, 3);
        right(x, 4, "G0T", 2);
        wrong(x, 4, "G01", 2, 3);
        right(x, 3, "G11", 2);
        wrong(x, 3, "G1T", 2, 3);
        wrong(x, 3, "G21T", 0, 3);
        right(x, 5, "G2a1", 3);
        wrong(x, 5, "G21a", 2, 4);
        wrong(x, 5, "G2aa", 3, 4);
        wrong(x, 5, "G1a", 2, 3);
        right(x, 5, "G1G5a", 3);
        right(x, 1, "G1a", 2);
        wrong(x, 1, "G0T", 0, 4);
        wrong(x, 1, "G3", 0, 4);
    }

    /** "All others ...: the type is inferred and then unified with t", at the first byte of what is checked. */
    private static void checkOthers() {
        BranchTypes x = with("", ":i :b i,b,u,:i i,b,u,:b i,b,u,:u puv,u,:v");
        String[] ints = {"0", "9", "+12", "-12", "LP1T", "RPT1"};
        String[] truths = {"T", "F", "<12", "=12", "LPT1", "RP1T"};
        for (int n = 0; n < ints.length; n++) {
            right(x, 0, ints[n], n < 2 ? 1 : n < 4 ? 3 : 4);
            wrong(x, 1, ints[n], 0, 3);
            wrong(x, 4, ints[n], 0, 4);
            right(x, 1, truths[n], n < 2 ? 1 : n < 4 ? 3 : 4);
            wrong(x, 0, truths[n], 0, 3);
            wrong(x, 4, truths[n], 0, 4);
        }
        right(x, 2, "a", 1);
        wrong(x, 2, "b", 0, 3);
        wrong(x, 2, "c", 0, 4);
        wrong(x, 3, "a", 0, 3);
        right(x, 3, "b", 1);
        wrong(x, 3, "c", 0, 4);
        wrong(x, 4, "a", 0, 4);
        right(x, 4, "c", 1);
        right(x, 5, "Ra", 2);
        wrong(x, 5, "La", 0, 4);
        wrong(x, 5, "b", 0, 4);
        wrong(x, 1, "+T1", 1, 3);
        wrong(x, 1, "L+T1", 2, 3);
    }

    /** "a digit: int. T, F: bool. ... + and -: both E are checked against int, in order; int. < and =: ... bool." */
    private static void inferSimple() {
        BranchTypes x = with("0:i", ":b");
        for (char digit = '0'; digit <= '9'; digit++) {
            runs(x, String.valueOf(digit), "i", digit + ".");
        }
        runs(x, "T", "b", "T");
        runs(x, "F", "b", "F");
        for (String sign : new String[] {"+", "-", "<", "="}) {
            boolean number = sign.equals("+") || sign.equals("-");
            runs(x, sign + "44", number ? "i" : "b", sign.equals("+") ? "8." : sign.equals("-") ? "0." : sign.equals("=") ? "T" : "F");
            wrong(x, sign + "T4", 1, 3);
            wrong(x, sign + "4T", 2, 3);
            wrong(x, sign + "TF", 1, 3);
            wrong(x, sign + "G04", 1, 3);
            wrong(x, sign + "4P12", 2, 3);
            wrong(x, sign + "C04", 1, 3);
            // Both are checked, so that they may be matches.
            runs(x, "LP" + sign + "MC0{04}MC0{04}1", number ? "i" : "b", Check.valueOf(run(x, sign + "44")));
        }
        wrong(x, "++1T1", 3, 3);
        wrong(x, "+<111", 1, 3);
    }

    private static BranchTypes run(BranchTypes x, String text) {
        Check.runs(x, text);
        return x;
    }

    /** "? E E E: ... the type of the second one is inferred, the third one is checked against it; this type." */
    private static void inferChoice() {
        BranchTypes x = with("0:i 1:u 1u,:u", ":b");
        runs(x, "?T12", "i", "1.");
        runs(x, "?FTF", "b", "F");
        wrong(x, "?112", 1, 3);
        wrong(x, "?P121T", 1, 3);
        wrong(x, "?T1T", 3, 3);
        wrong(x, "?TT1", 3, 3);
        wrong(x, "?TMC0{01}1", 2, 5);
        runs(x, "?T1MC0{02}", "i", "1.");
        runs(x, "?MC0{0F}1MC0{02}", "i", "2.");
        runs(x, "?TC1C25", "d1i", "C1");
        runs(x, "?FC2TC1", "d1b", "C1");
        wrong(x, "?TC25C2T", 7, 3);
        wrong(x, "?TC25C0", 5, 3);
    }

    /** "P E E: both types are inferred, in order; the pair of them." */
    private static void inferPair() {
        BranchTypes x = with("0:i 1:u", ":b");
        runs(x, "P1T", "pib", "P1.T");
        runs(x, "PT1", "pbi", "PT1.");
        runs(x, "PP1TPFP23", "ppibpbpii", "PP1.TPFP2.3.");
        runs(x, "PC1C1", "pd1_d1_", "PC1C1");
        wrong(x, "P+T1+T1", 2, 3);
        wrong(x, "P1+T1", 3, 3);
        wrong(x, "PMC0{01}1", 1, 5);
        wrong(x, "P1MC0{01}", 2, 5);
        wrong(x, "PM1{}+T1", 1, 5);
        wrong(x, "P+T1M1{}", 2, 3);
    }

    /** "L E, R E: ... if its representative is no pair, it is unified with a pair of two new flexible variables; ..." */
    private static void inferParts() {
        BranchTypes x = with("0:i 0u,:u", ":u u,:u u,:i puv,:i d0u,:u d0u,:i");
        runs(x, "LP1T", "i", "1.");
        runs(x, "RP1T", "b", "T");
        runs(x, "RLPP1TF", "b", "T");
        wrong(x, "L1", 0, 3);
        wrong(x, "RT", 0, 3);
        wrong(x, "LC0", 0, 3);
        wrong(x, "RLP12", 0, 3);
        wrong(x, "LRP12", 0, 3);
        wrong(x, "L+T1", 2, 3);
        wrong(x, "LMC0{01}", 1, 5);
        wrong(x, 2, "La", 0, 4);
        wrong(x, 2, "RG1a", 0, 4);
        wrong(x, 3, "La", 0, 4);
        right(x, 3, "+1RPLa2", 7);
        c.due("two flexible ones", Check.runs(x, "+LG0RG0"), OPEN);
        c.due("int and bool", Check.runs(x, "?LG0RG02"), OPEN);
        c.due("a pair of pairs", Check.runs(x, "+LLG0RRG0"), OPEN);
        wrong(x, "L+LG01", 0, 3);
        c.due("of a call", Check.runs(x, "+1LG1P2T"), OPEN);
        wrong(x, "+1RG1P2T", 2, 3);
    }

    /** "C, G: new flexible variables ...; each E is checked against the type of its field ..., in order; then ..." */
    private static void inferConstructorAndCall() {
        BranchTypes x = with("0i,:i 1u,u,:puu 2u,:v 3d0u,b,:u", "u,u,:d1u i,b,:b :u");
        runs(x, "C01", "d0i", "C01.");
        runs(x, "C112", "d1pii", "C11.2.");
        runs(x, "C21", "d2_", "C21.");
        runs(x, "C3C01T", "d3i", "C3C01.T");
        runs(x, "PC112C1TF", "pd1piid1pbb", "PC11.2.C1TF");
        wrong(x, "C0T", 2, 3);
        wrong(x, "C1T1", 3, 3);
        wrong(x, "C11T", 3, 3);
        wrong(x, "C31T", 2, 3);
        wrong(x, "C3C011", 5, 3);
        wrong(x, "C3C21T", 2, 3);
        wrong(x, "G0T1", 3, 3);
        wrong(x, "G111", 3, 3);
        wrong(x, "G1TT", 2, 3);
        wrong(x, "G1T1", 2, 3);
        c.due("a right call", Check.runs(x, "G11T"), OPEN);
        c.due("with a flexible one", Check.runs(x, "G1G2G2"), OPEN);
        c.due("twice the same", Check.runs(x, "G0G21"), OPEN);
        c.due("its fields are checked", Check.runs(x, "C0MC01{09}"), 5);
    }

    /** "M: there is a fault at the M, reason 5", whatever stands in it. */
    private static void inferMatch() {
        BranchTypes x = with("0:i", ":d0i :i");
        wrong(x, "MC0{01}", 0, 5);
        wrong(x, "M+T1{}", 0, 5);
        wrong(x, "M1{}", 0, 5);
        wrong(x, "LMC0{01}", 1, 5);
        wrong(x, "PMC0{01}1", 1, 5);
        wrong(x, "?TMC0{01}1", 2, 5);
        wrong(x, "+1MMC0{0C0}{01}", 3, 5);
        runs(x, "+1MC0{01}", "i", "2.");
        right(x, 1, "M?TC0C0{01}", 6);
        right(x, 1, "MC0{01}", 3);
        wrong(x, 1, "M?TMC0{0C0}C0{01}", 3, 5);
        right(x, 1, "M?TC0MC0{0C0}{01}", 8);
    }

    /** "Checking M E { cases } against t: the type of E is inferred." */
    private static void matchedFirst() {
        BranchTypes x = with("0:i 0i,:b", ":i d0i,:i");
        wrong(x, 0, "M+T1{}", 2, 3);
        wrong(x, 0, "MC1T{}", 3, 3);
        wrong(x, 1, "MLPa+T1{}", 5, 3);
        wrong(x, 0, "ML1{0T}", 1, 3);
        right(x, 1, "MLPa1{02}", 6);
    }

    /** "If its representative is not a family, or its index is not known, there is a fault at the M, reason 6." */
    private static void matchedType() {
        BranchTypes x = with("0:i 0:piu 1:u", "u,d0u,d0piu,:i i,b,pid0i,:i :u :d0u :d0piu :d0d0u");
        for (String e : new String[] {"a", "1", "T", "P12", "G2", "G3", "G4", "G5", "C1", "C2", "LG2"}) {
            wrong(x, 0, "M" + e + "{}", 0, 6);
            wrong(x, 0, "+1M" + e + "{}", 2, 6);
            wrong(x, 0, "M" + e + "{0T}", 0, 6);
        }
        for (String e : new String[] {"a", "b", "c", "Lc"}) {
            wrong(x, 1, "M" + e + "{}", 0, 6);
        }
        right(x, 1, "MRc{01}", 4);
        right(x, 0, "Mb{0112}", 4);
        right(x, 0, "Mc{12}", 3);
        wrong(x, 0, "Mb{}", 0, 9);
        wrong(x, 0, "Mc{}", 0, 9);
        // It is known as soon as what it contains is.
        right(x, 1, "MC0{01}", 3);
        right(x, 1, "M?TG3C0{01}", 6);
        right(x, 1, "M?TC0G3{01}", 6);
        wrong(x, 1, "M?TG3G3{01}", 0, 6);
    }

    /** "If the constructor of a case is not of this family, or has occurred in an earlier case ..., reason 7." */
    private static void foreignCases() {
        BranchTypes x = with("0:i 1:i 0:u 1:u", "d0i,d1i,:i d0i,:d1i");
        right(x, 0, "Ma{0122}", 4);
        right(x, 0, "Ma{2102}", 4);
        right(x, 0, "Mb{1132}", 4);
        wrong(x, 0, "Ma{11}", 3, 7);
        wrong(x, 0, "Ma{0111}", 5, 7);
        wrong(x, 0, "Mb{0131}", 3, 7);
        wrong(x, 0, "Ma{0101}", 5, 7);
        wrong(x, 0, "Ma{012201}", 7, 7);
        wrong(x, 0, "Ma{012222}", 7, 7);
        wrong(x, 0, "Ma{01+11}", 5, 1);
        wrong(x, 0, "Ma{1T}", 3, 7);
        // The same constructor may occur in a match within a match, and in another one.
        right(x, 0, "Ma{0Ma{0122}2Ma{2102}}", 10);
        right(x, 0, "+Ma{0122}Ma{0122}", 9);
        wrong(x, 0, "Ma{0Ma{0101}22}", 9, 7);
        wrong(x, 0, "Ma{0Ma{0122}02}", 12, 7);
    }

    /** "... it is assumed that the index ... equal; if there is a clash, there is a fault at the digit, reason 8". */
    private static void impossibleCases() {
        BranchTypes x = with("0:i 0:b 0:puu 0:pud0u", "d0i,d0u,d0pvb,:i d0puu,d0pib,d0d1u,:i");
        right(x, 0, "Ma{01}", 3);
        wrong(x, 0, "Ma{11}", 3, 8);
        wrong(x, 0, "Ma{21}", 3, 8);
        wrong(x, 0, "Ma{0131}", 5, 8);
        wrong(x, 0, "Ma{1T}", 3, 8);
        right(x, 0, "Mb{01122334}", 6);
        right(x, 0, "Mc{21}", 3);
        wrong(x, 0, "Mc{2131}", 5, 8);
        // A type would contain itself.
        wrong(x, 1, "Ma{31}", 3, 8);
        right(x, 1, "Ma{21}", 3);
        wrong(x, 1, "Mb{21}", 3, 8);
        right(x, 1, "Mb{}", 2);
        right(x, 1, "Mc{}", 2);
    }

    /** "Finally, for each constructor of this family that occurs in no case ...: if the same assumption ..., reason 9." */
    private static void missingCases() {
        BranchTypes x = with("0:i 0:b 0:puu 1:i 0u,:d2u", "d0u,d0i,d0puv,:i d0d2b,d0d3b,d1b,:i d3u,d1u,d2u,:i");
        right(x, 0, "Ma{01122344}", 6);
        String[] three = {"Ma{011223}", "Ma{011244}", "Ma{012344}", "Ma{122344}", "Ma{}", "Ma{01}", "Ma{41}"};
        for (String text : three) {
            wrong(x, 0, text, 0, 9);
            wrong(x, 0, "+0" + text, 2, 9);
        }
        right(x, 0, "Mb{01}", 3);
        wrong(x, 0, "Mb{}", 0, 9);
        right(x, 0, "Mc{21}", 3);
        wrong(x, 0, "Mc{}", 0, 9);
        right(x, 1, "Ma{41}", 3);
        wrong(x, 1, "Ma{}", 0, 9);
        right(x, 1, "Mb{}", 2);
        right(x, 1, "Mc{}", 2);
        wrong(x, 1, "Mc{31}", 3, 8);
        right(x, 2, "Ma{}", 2);
        wrong(x, 2, "Mb{}", 0, 9);
        right(x, 2, "Mb{31}", 3);
        right(x, 2, "Mc{}", 2);
    }

    /** The matched type, then the cases in order, each with its E, then what is missing. */
    private static void orderOfMatch() {
        BranchTypes x = with("0:i 0:b 1:i", "d0i,d0u,b,:i");
        wrong(x, 0, "Mc{0T}", 0, 6);
        wrong(x, 0, "Ma{0T11}", 4, 3);
        wrong(x, 0, "Ma{0T21}", 4, 3);
        wrong(x, 0, "Ma{0T01}", 4, 3);
        wrong(x, 0, "Ma{010T}", 5, 7);
        wrong(x, 0, "Ma{01210T}", 5, 7);
        wrong(x, 0, "Mb{0T}", 4, 3);
        wrong(x, 0, "Mb{1T}", 4, 3);
        wrong(x, 0, "Mb{1121}", 5, 7);
        wrong(x, 0, "Mb{11}", 0, 9);
        wrong(x, 0, "+Mb{11}T", 1, 9);
        wrong(x, 0, "+TMb{11}", 1, 3);
        wrong(x, 0, "Mb{0Mb{}11}", 4, 9);
    }

    /** What is assumed holds in the E of the case, for the scope and for t, and "the branch is closed" behind it. */
    private static void assumedInACase() {
        BranchTypes x = with("0:i 0:b", "d0u,u,:u d0u,u,:i d0u,d0u,u,:b");
        right(x, 0, "Ma{0b1b}", 4);
        right(x, 0, "Ma{0+b11?bTb}", 9);
        wrong(x, 0, "Ma{0T1F}", 4, 3);
        wrong(x, 0, "Ma{0115}", 6, 3);
        wrong(x, 0, "Ma{0?bbb1b}", 5, 3);
        wrong(x, 0, "?TMa{0b1b}1", 10, 4);
        right(x, 1, "Ma{0b1?b12}", 7);
        wrong(x, 1, "Ma{0b1b}", 6, 3);
        wrong(x, 1, "+Ma{0b11}b", 9, 4);
        wrong(x, 1, "+bMa{0b11}", 1, 4);
        right(x, 1, "+Ma{0b11}Ma{0b12}", 9);
        // Another value of the same type, matched within: only the same case can be.
        right(x, 2, "Ma{0Mb{0<c1}1Mb{1c}}", 10);
        wrong(x, 2, "Ma{0Mb{0T1c}1Mb{1c}}", 9, 8);
        wrong(x, 2, "Ma{0Mb{}1c}", 4, 9);
        wrong(x, 2, "Ma{0T1Mb{0T}}", 9, 8);
    }

    /** Each case assumes for itself, and cases within cases add to what is assumed. */
    private static void assumedInCases() {
        BranchTypes x = with("0:i 0:b 0d0u,d0v,:puv", "d0u,d0v,u,:v d0u,u,:u d0puv,puv,:u");
        right(x, 0, "Ma{0Mb{0c1T2G0abc}1Mb{051c2G0abc}2G0abc}", 22);
        wrong(x, 0, "Ma{0Mb{0c1c2G0abc}1G0abc2G0abc}", 10, 3);
        wrong(x, 0, "Ma{0c1G0abc2G0abc}", 4, 4);
        wrong(x, 0, "Ma{0Mb{0c1T2c}1G0abc2G0abc}", 12, 3);
        right(x, 1, "Ma{0+b11?bFT2PG1cLbG1dRb}", 18);
        wrong(x, 1, "Ma{0+b11?bFT2PG1cLbG1dLb}", 22, 4);
        wrong(x, 1, "Ma{0+b11?bFT2PG1dLbG1dRb}", 16, 4);
        right(x, 2, "Ma{2Lb}", 4);
        wrong(x, 2, "Ma{2Rb}", 4, 4);
        wrong(x, 2, "Ma{2G1dRb}", 6, 4);
        right(x, 2, "Ma{2G1cLb}", 6);
    }

    /** "... new rigid variables are created for the variables in the signature of the constructor". */
    private static void newInACase() {
        BranchTypes x = with("0u,:i 0u,u,:b 1u,v,:puv", "d0i,:i d0b,:b u,u,:b u,:d0i d1puv,u,:v");
        wrong(x, 0, "Ma{0b}", 4, 4);
        right(x, 0, "Ma{05}", 3);
        wrong(x, 0, "Ma{0+b1}", 5, 4);
        right(x, 0, "MG3a{0MG3b{07}}", 7);
        right(x, 1, "Ma{1G2bc}", 5);
        wrong(x, 1, "Ma{1b}", 4, 4);
        right(x, 1, "Ma{1Ma{1G2bc}}", 7);
        right(x, 1, "Ma{1Ma{1G2ed}}", 7);
        wrong(x, 1, "Ma{1Ma{1G2bd}}", 11, 4);
        wrong(x, 1, "Ma{1Ma{1G2eb}}", 11, 4);
        right(x, 4, "Ma{2d}", 3);
        wrong(x, 4, "Ma{2c}", 4, 4);
        wrong(x, 4, "Ma{2b}", 4, 4);
        right(x, 4, "Ma{2RPcd}", 6);
        right(x, 4, "Ma{2RPbd}", 6);
    }

    /** Flexible variables of a smaller depth are protected in a case; those that are created in it are free. */
    private static void outerInACase() {
        BranchTypes x = with("0:i 1u,:u", "u,:u :u d0i,:i u,i,:i");
        wrong(x, "C1MC0{05}", 7, 4);
        wrong(x, "G0MC0{0T}", 7, 4);
        wrong(x, "C1MC0{0P12}", 7, 4);
        wrong(x, "C1MC0{0C0}", 7, 4);
        c.due("one that is created in it", Check.runs(x, "C1MC0{0G1}"), OPEN);
        wrong(x, "+1MC0{0LG0MC0{01}}", 15, 4);
        runs(x, "+1MC0{0LP41}", "i", "5.");
        c.due("free in it", Check.runs(x, "+1MC0{0+LG1RG1}"), OPEN);
        // What is solved before the case is not protected.
        right(x, 2, "G3G15", 3);
        right(x, 2, "?TLPG11Ma{05}", 9);
        wrong(x, 2, "G3Ma{05}1", 6, 4);
        right(x, 2, "Ma{0G351}", 5);
    }

    /** As many matches in one another as a text can hold. */
    private static void nestedMatches() {
        String made = "0:i 0:b";
        String called = "d0i,:i d0u,u,:u";
        BranchTypes x = with(made, called);
        String text = "Ma{0".repeat(19) + "7" + "}".repeat(19);
        right(x, 0, text, 39);
        c.due("runs", Check.runs(x, "G0C0"), 2 + 39);
        c.due("its value", Check.valueOf(x), "7.");
        c.due("its nesting", x.ran(1), 21);
        x = with(made, called);
        wrong(x, 0, "Ma{0".repeat(19) + "T" + "}".repeat(19), 76, 3);
        wrong(x, 0, "Ma{0".repeat(18) + "Ma{17" + "}".repeat(19), 75, 8);
        wrong(x, 0, "Ma{0".repeat(18) + "Ma{}" + "}".repeat(18), 72, 9);
        x = with(made, called);
        String inner = "Ma{0".repeat(18) + "b" + "}".repeat(18);
        wrong(x, 1, inner, 0, 9);
        right(x, 1, inner.substring(0, inner.length() - 1) + "1b}", 18 * 2 + 2);
        c.due("runs", Check.runs(x, "G1C09"), 3 + 37);
        c.due("the other case", Check.runs(x, "G1C1F"), 3 + 3);
    }

    /** "An expression is checked with types of its own, independent of the bench, beginning with none and with depth 0". */
    private static void typesOfItsOwn() {
        BranchTypes x = with("0:i 0:b", "d0u,u,:u");
        for (int n = 0; n < 8; n++) {
            x.opens();
            x.made(7, 0, 0);
            x.made(8, 0, 0);
        }
        x.equates(0, 2);
        while (x.bench(0) < 60) {
            x.made(8, 0, 0);
        }
        int classes = x.classes();
        int unsolved = x.bench(2);
        right(x, 0, "Ma{0+b11?bTF}", 9);
        runs(x, "G0C05", "i", "6.");
        runs(x, "PPP123G0C1T", "pppiiib", "PPP1.2.3.T");
        wrong(x, 0, "Ma{0b1c}", 6, 1);
        wrong(x, 0, "Ma{0b11}", 6, 3);
        c.due("classes", x.classes(), classes);
        c.due("types", x.bench(0), 60);
        c.due("depth", x.bench(1), 8);
        c.due("unsolved", x.bench(2), unsolved);
        c.due("full", x.made(7, 0, 0), FULL);
        // A text that follows another one begins anew, also after a fault in a case or within parts.
        for (int n = 0; n < 5; n++) {
            wrong(x, 0, "Ma{0Ma{0T}1F}", 8, 3);
            wrong(x, "PP1PT+1PT12", 7, 3);
            right(x, 0, "Ma{0b1b}", 4);
            runs(x, "G0C07", "i", "7.");
        }
    }

    /** A check begins anew, however deep in cases and calls the faults before it were. */
    private static void afterFaults() {
        BranchTypes x = with("0:i 0:b", "d0i,:i d0u,u,:u");
        for (int n = 0; n < 5; n++) {
            wrong(x, 0, "Ma{0".repeat(8) + "T" + "}".repeat(8), 32, 3);
        }
        right(x, 0, "Ma{0".repeat(8) + "7" + "}".repeat(8), 17);
        right(x, 1, "Ma{0b1b}", 4);
        runs(x, "G0C0", "i", "7.");
        x = with("0:i 0:b", "d0i,:i d0u,u,:u");
        for (int n = 0; n < 40; n++) {
            wrong(x, 0, "Ma{17}", 3, 8);
        }
        right(x, 1, "Ma{0b1b}", 4);
        BranchTypes y = with("", "i,i,i,:i");
        for (int n = 0; n < 4; n++) {
            wrong(y, "G011".repeat(19) + "T", 76, 3);
        }
        c.due("a right one", Check.runs(y, "G01G0234G0567"), OPEN);
        // Seven variables and pairs are made equal for each call.
        BranchTypes z = with("", ":u pupvpwpuv,:pupvpwpuv u,u,:b");
        for (int n = 0; n < 15; n++) {
            c.due("many types made equal", Check.runs(z, "G1".repeat(9) + "G0"), OPEN);
        }
        wrong(z, "G21T", 3, 3);
        c.due("a right one", Check.runs(z, "G212"), OPEN);
    }

    /** "... as many as necessary": a byte can make three types, and a digit those of a signature of 24 bytes. */
    private static void asManyAsNecessary() {
        BranchTypes x = with("0:u 0puv,puw,pvw,:ppuvpwpupvw", ":u i,:" + "p".repeat(10) + "u".repeat(10) + "v u,v,w,:puv");
        c.due("98 pairs", Check.runs(x, "L".repeat(98) + "G0"), DEEP);
        c.due("97 pairs, which are no int", Check.runs(x, "+1" + "R".repeat(96) + "G0"), DEEP);
        wrong(x, "+T" + "R".repeat(96) + "G0", 1, 3);
        x = with("0:u 0puv,puw,pvw,:ppuvpwpupvw", ":u i,:" + "p".repeat(10) + "u".repeat(10) + "v u,v,w,:puv");
        c.due("many calls, of which one is no int", Check.runs(x, "G1".repeat(3) + "1"), -12);
        c.due("six with long signatures", Check.runs(x, "P" + "PG11".repeat(5) + "1G11"), OPEN);
        c.due("four constructors, of which one is no pair", Check.runs(x, "L".repeat(4) + "PC1P12P1TP2TPC1P12P1TP2TPC1P12P1TP2TPC1P12P1TP2T1"), -12);
        c.due("flexible ones", Check.runs(x, "L".repeat(50) + "G2G0G0G0"), OPEN);
    }
}
