/** TEXTS, and promises 16 to 21 and 23 to 25: a test of each sentence that names an edge; it stands above its test. */
public final class TextsEdgeTest {
    private static final int BAD = BranchTypes.BAD, NO = BranchTypes.NO, FULL = BranchTypes.FULL;
    private static final int OPEN = BranchTypes.OPEN, SPENT = BranchTypes.SPENT, DEEP = BranchTypes.DEEP;
    /** A type of 23 bytes; behind a colon, a signature of 24. */
    private static final String LONG_TYPE = "p".repeat(11) + "i".repeat(12);
    private static Check c;

    public static void main(String[] args) {
        c = new Check("TextsEdgeTest");
        everyByte();
        hundredBytes();
        emptied();
        notEmptied();
        firstBytes();
        signatureBytes();
        signatureParts();
        signatureLength();
        longSignatures();
        declaredDigits();
        declaredCases();
        letters();
        lettersOfCases();
        tooEarly();
        behindTheEnd();
        noBlanks();
        tooHeavy();
        heavyCases();
        whicheverIsFirst();
        functionStays();
        prepared();
        preparedAndMore();
        variables();
        expressions();
        reasons();
        c.end();
    }

    private static void fault(String name, int got, int at) {
        c.due(name, got, -10 - at);
    }

    private static void run(BranchTypes x, String text, int at, int reason) {
        fault("runs " + text, Check.runs(x, text), at);
        c.due("why of " + text, x.why(), reason);
    }

    private static void body(BranchTypes x, int f, String text, int at, int reason) {
        fault("body " + text, Check.bodies(x, f, text), at);
        c.due("why of " + text, x.why(), reason);
    }

    /** "The text has at most 100 bytes, each from 0 to 127. It is empty at first." */
    private static void everyByte() {
        for (int first = 0; first < 128; first += 64) {
            BranchTypes x = new BranchTypes();
            c.due("empty at first", x.told(5), 0);
            c.due("nothing to clear", x.clear(), 0);
            for (int n = 0; n < 64; n++) {
                c.due("byte " + (first + n), x.type(first + n), n + 1);
            }
            c.due("128", x.type(128), BAD);
            c.due("-1", x.type(-1), BAD);
            c.due("not among them", x.clear(), 64);
            c.due("empty", x.told(5), 0);
        }
    }

    private static void hundredBytes() {
        BranchTypes x = new BranchTypes();
        // A choice of a number or a sum of 49 numbers: 100 bytes and as many expressions.
        String text = "?F1" + sum(49);
        for (int n = 0; n < 100; n++) {
            c.due("byte " + n, x.type(text.charAt(n)), n + 1);
        }
        c.due("one more", x.type('1'), FULL);
        c.due("and one more", x.type('1'), FULL);
        c.due("a hundred", x.told(5), 100);
        c.due("all of them are read", x.runs(), 99);
        c.due("their sum", Check.valueOf(x), "49.");
        c.due("the next one is the first", x.type('1'), 1);
        c.due("one to clear", x.clear(), 1);
        Check.write(x, "x".repeat(100));
        c.due("a hundred to clear", x.clear(), 100);
    }

    private static String sum(int n) {
        return n == 1 ? "1" : "+" + sum(n - n / 2) + sum(n / 2);
    }

    /** "A call that reads it empties it, also if there is a fault". */
    private static void emptied() {
        BranchTypes x = new BranchTypes();
        c.due("constructs", Check.constructs(x, 0, ":i") * 10 + x.told(5), 0);
        c.due("constructs with a fault", Check.constructs(x, 0, ":i:") * 10 + x.told(5), -120);
        c.due("signs", Check.signs(x, "i,:i") * 10 + x.told(5), 0);
        c.due("signs with a fault", Check.signs(x, "x") * 10 + x.told(5), -100);
        c.due("bodies", Check.bodies(x, 0, "?T1G0+1a") * 10 + x.told(5), 70);
        c.due("bodies with a fault of reading", Check.bodies(x, 0, "b") * 10 + x.told(5), -100);
        c.due("bodies with a fault of checking", Check.bodies(x, 0, "+aT") * 10 + x.told(5), -120);
        c.due("runs", Check.runs(x, "2") * 10 + x.told(5), 10);
        c.due("runs with a fault of reading", Check.runs(x, "12") * 10 + x.told(5), -110);
        c.due("runs with a fault of checking", Check.runs(x, "?1") * 10 + x.told(5), -120);
        Check.bodies(x, 0, "G0a");
        c.due("DEEP", Check.runs(x, "G01") * 10 + x.told(5), 10 * DEEP);
        Check.signs(x, ":i");
        c.due("OPEN", Check.runs(x, "G1") * 10 + x.told(5), 10 * OPEN);
        // 49 expressions, then 10 calls of them: 520 steps for each call of the second one.
        Check.bodies(x, 0, "+" + sum(24) + "a");
        Check.bodies(x, 1, "+".repeat(9) + "G01".repeat(10));
        c.due("SPENT", Check.runs(x, "+G1G1") * 10 + x.told(5), 10 * SPENT);
        c.due("the next byte", x.type('1'), 1);
    }

    /** "... it does not if BAD, NO or FULL is returned." */
    private static void notEmptied() {
        BranchTypes x = new BranchTypes();
        Check.write(x, ":i");
        c.due("constructs BAD", x.constructs(4) * 10 + x.told(5), 10 * BAD + 2);
        c.due("bodies BAD", x.bodies(0) * 10 + x.told(5), 10 * BAD + 2);
        for (int k = 0; k < 10; k++) {
            c.due("constructs", x.constructs(0), k);
            Check.write(x, ":i");
        }
        c.due("constructs FULL", x.constructs(0) * 10 + x.told(5), 10 * FULL + 2);
        for (int f = 0; f < 6; f++) {
            c.due("signs", x.signs(), f);
            Check.write(x, ":i");
        }
        c.due("constructs NO", x.constructs(0) * 10 + x.told(5), 10 * NO + 2);
        c.due("signs FULL", x.signs() * 10 + x.told(5), 10 * FULL + 2);
        c.due("bodies BAD", x.bodies(6) * 10 + x.told(5), 10 * BAD + 2);
        c.due("begins", x.begins(0) * 10 + x.told(5), 2);
        c.due("begins BAD", x.begins(4) * 10 + x.told(5), 10 * BAD + 2);
        c.due("what was kept is what it was", x.signs(), 0);
    }

    /** "The fault is at the first byte that cannot stand there ..., with reason 1": each byte at the beginning. */
    private static void firstBytes() {
        BranchTypes x = new BranchTypes();
        for (char b = 0; b < 128; b++) {
            boolean whole = "0123456789TF".indexOf(b) >= 0;
            boolean begins = "+-<=?PLRCGM".indexOf(b) >= 0;
            c.due("an expression " + (int) b, Check.runs(x, String.valueOf(b)), whole ? 1 : begins ? -11 : -10);
        }
        c.due("why", x.why(), 1);
        BranchTypes y = new BranchTypes();
        for (char b = 0; b < 128; b++) {
            boolean begins = "ibuvwpd:".indexOf(b) >= 0;
            c.due("a signature " + (int) b, Check.constructs(y, 0, String.valueOf(b)), begins ? -11 : -10);
        }
        c.due("why", y.why(), 1);
    }

    /** "A type is written as i, b, p and two types, d and a digit from 0 to 3 and a type, or u, v or w." */
    private static void signatureBytes() {
        String[] before = {":", ":d", "i", "i,", "i,i,i,", ":i", ":p", "u,:d3", "d2"};
        String[] allowed = {"ibuvwpd", "0123", ",", "ibuvwpd:", ":", "", "ibuvwpd", "ibuvwpd", "ibuvwpd"};
        for (int n = 0; n < before.length; n++) {
            for (char b = 0; b < 128; b++) {
                BranchTypes x = new BranchTypes();
                boolean whole = (n == 0 || n == 7) && "ibuvw".indexOf(b) >= 0;
                boolean stands = allowed[n].indexOf(b) >= 0;
                int at = before[n].length() + (stands ? 1 : 0);
                c.due(before[n] + (int) b, Check.constructs(x, 0, before[n] + b), whole ? 0 : -10 - at);
                c.due("why", x.why(), whole ? 0 : 1);
            }
        }
    }

    /** "A signature consists of up to three types, each followed by a comma, then a colon and one more type". */
    private static void signatureParts() {
        BranchTypes x = new BranchTypes();
        for (int parts = 0; parts <= 3; parts++) {
            c.due(parts + " fields", Check.constructs(x, 0, "i,".repeat(parts) + ":b"), parts);
            c.due("as many", x.constructor(parts, 1), parts);
        }
        for (int parts = 0; parts <= 3; parts++) {
            c.due(parts + " parameters", Check.signs(x, "u,".repeat(parts) + ":b"), parts);
            c.due("as many", x.function(parts, 0), parts);
        }
        fault("four", Check.signs(x, "i,i,i,i,:b"), 6);
        fault("no colon", Check.signs(x, "i,i,i,"), 6);
        fault("no comma", Check.signs(x, "i,i:i"), 3);
        fault("a comma before the colon alone", Check.signs(x, ",:i"), 0);
        fault("two colons", Check.signs(x, "::i"), 1);
        fault("no type", Check.signs(x, "i,:"), 3);
        fault("two types", Check.signs(x, ":ib"), 2);
        fault("nothing", Check.signs(x, ""), 0);
        c.due("four functions", x.told(4), 4);
    }

    /** "... it has at most 24 bytes"; "the 25th byte of a signature" is a fault. A whole signature has an even number. */
    private static void signatureLength() {
        String[] texts = {
            ":" + LONG_TYPE, ":" + LONG_TYPE + "i", ":" + LONG_TYPE + "ii", ":p" + LONG_TYPE + "i", ":d0" + LONG_TYPE,
            ":" + "p".repeat(23), ":" + "p".repeat(24), ":" + "p".repeat(12) + "i".repeat(11), ":" + "p".repeat(12) + "i".repeat(13),
            "ppppuuuuu,ppppuuuuu,i,:i", "ppppuuuuu,ppppuuuuu,iii,", "ppppuuuuu,ppppuuuuu,pii,:i",
            "ppppuuuuu,pppuuuu,pbb,:b", "ppppuuuuu,pppuuuu,pbb,:d0b", "ppppuuuuu,pppuuuu,pbb,::", "ppppuuuuu,pppuuuu,pbbb,:b",
            ":" + "d0".repeat(11) + "i", ":" + "d0".repeat(11) + "d0i", ":" + "d0".repeat(11) + "d", ":" + "d0".repeat(11) + "dd",
            ":pii" + "d0".repeat(48), ":" + "p".repeat(10) + "i".repeat(11) + "iiii",
            "p".repeat(24) + "i", "p".repeat(100), "d3".repeat(50), ":" + "d1".repeat(10) + "pii", ":" + "d1".repeat(10) + "puv"};
        int[] due = {0, -34, -34, -34, -34,
            -34, -34, -34, -34,
            0, -31, -34,
            0, -34, -33, -31,
            0, -34, -34, -34,
            -14, -32,
            -34, -34, -34, 0, 0};
        for (int n = 0; n < texts.length; n++) {
            BranchTypes x = new BranchTypes();
            c.due("constructs " + texts[n], Check.constructs(x, 0, texts[n]), due[n]);
            c.due("why", x.why(), due[n] < 0 ? 1 : 0);
            BranchTypes y = new BranchTypes();
            c.due("signs " + texts[n], Check.signs(y, texts[n]), due[n]);
            c.due("declared", x.told(3) + y.told(4), due[n] < 0 ? 0 : 2);
        }
    }

    /** What a signature of 24 bytes says is used to its last byte. */
    private static void longSignatures() {
        BranchTypes x = new BranchTypes();
        c.due("24 bytes", Check.constructs(x, 3, ":" + "d1".repeat(10) + "pub"), 0);
        c.due("runs", Check.runs(x, "C0"), 1);
        c.due("its type", Check.typeOf(x), "d3" + "d1".repeat(10) + "p_b");
        // A pair of ten pairs in one another and, as the last byte says, of an int.
        c.due("24 bytes", Check.signs(x, ":" + "p".repeat(11) + "b".repeat(11) + "i"), 0);
        c.due("its last byte is int", Check.runs(x, "+1RG0"), OPEN);
        run(x, "+1RLG0", 2, 3);
        c.due("a body", Check.bodies(x, 0, "P".repeat(11) + "T".repeat(11) + "7"), 23);
        body(x, 0, "P".repeat(11) + "T".repeat(12), 22, 3);
        c.due("runs", Check.runs(x, "+1RG0"), 4 + 23);
        c.due("its value", Check.valueOf(x), "8.");
    }

    /** "... a digit of something that is not declared": 10 constructors and 6 functions are the most. */
    private static void declaredDigits() {
        for (int declared = 0; declared <= 10; declared++) {
            BranchTypes x = new BranchTypes();
            for (int k = 0; k < declared; k++) {
                c.due("constructor", Check.constructs(x, 0, ":i"), k);
            }
            for (int k = 0; k <= 9; k++) {
                c.due("C" + k + " of " + declared, Check.runs(x, "C" + k), k < declared ? 1 : -11);
                c.due("its value", k < declared ? Check.valueOf(x) : "C" + k, "C" + k);
            }
            c.due("no digit", Check.runs(x, "C:"), -11);
            c.due("no digit", Check.runs(x, "C/"), -11);
        }
        for (int declared = 0; declared <= 6; declared++) {
            BranchTypes x = new BranchTypes();
            for (int f = 0; f < declared; f++) {
                c.due("function", Check.signs(x, ":i"), f);
                c.due("body", Check.bodies(x, f, String.valueOf(f)), 1);
            }
            for (int f = 0; f <= 9; f++) {
                c.due("G" + f + " of " + declared, Check.runs(x, "G" + f), f < declared ? 2 : -11);
                c.due("its value", f < declared ? Check.valueOf(x) : f + ".", f + ".");
            }
        }
    }

    /** A case is a digit too, of a constructor; "there can be any number of cases, also none". */
    private static void declaredCases() {
        for (int declared = 0; declared <= 10; declared++) {
            BranchTypes x = new BranchTypes();
            StringBuilder all = new StringBuilder("MG0{");
            for (int k = 0; k < declared; k++) {
                Check.constructs(x, 0, ":i");
                all.append(k).append(9 - k);
            }
            Check.signs(x, ":d0i");
            Check.signs(x, "i,:i");
            c.due("a body of " + declared, Check.bodies(x, 1, all + "}"), 2 + declared);
            if (declared > 0) {
                int last = declared - 1;
                Check.bodies(x, 0, "C" + last);
                c.due("runs the last case", Check.runs(x, "G15"), 6);
                c.due("its value", Check.valueOf(x), (9 - last) + ".");
            }
            if (declared < 10) {
                body(x, 1, "MG0{" + declared + "1}", 4, 1);
                body(x, 1, "MG0{91}", 4, 1);
            }
            body(x, 1, "MG0{:1}", 4, 1);
            body(x, 1, "MG0{", 4, 1);
        }
    }

    /** "... the value with this place in the scope, where a is the first one"; "also a letter that is not in the scope". */
    private static void letters() {
        BranchTypes x = new BranchTypes();
        for (int parts = 0; parts <= 3; parts++) {
            Check.signs(x, "i,".repeat(parts) + ":i");
            for (char letter = 'a'; letter <= 'z'; letter++) {
                boolean in = letter - 'a' < parts;
                c.due(letter + " of " + parts, Check.bodies(x, parts, String.valueOf(letter)), in ? 1 : -10);
            }
            c.due("why", x.why(), 1);
        }
        c.due("the last one is c", Check.runs(x, "G3123"), 5);
        c.due("its value", Check.valueOf(x), "3.");
        run(x, "a", 0, 1);
        run(x, "+1a", 2, 1);
        run(x, "G1a", 2, 1);
    }

    /** "in the E of a case, the scope around the match, followed by the fields of the constructor": up to z. */
    private static void lettersOfCases() {
        BranchTypes x = new BranchTypes();
        Check.constructs(x, 0, "i,i,i,:i");
        Check.constructs(x, 1, "b,:i");
        Check.signs(x, "d0i,d1i,b,:i");
        Check.signs(x, "d0i,d1i,b,:b");
        // 3 parameters and 3 fields for each case of family 0; 8 of them make 27, of which z is the 26th.
        String eight = "Ma{0".repeat(8);
        c.due("z as 26th of 27", Check.bodies(x, 0, eight + "z" + "}".repeat(8)), 17);
        c.due("runs", Check.runs(x, "G0C0456C1TT"), 8 + 17);
        c.due("it is the second field", Check.valueOf(x), "5.");
        c.due("y as 25th of 27", Check.bodies(x, 0, eight + "y" + "}".repeat(8)), 17);
        c.due("runs", Check.runs(x, "G0C0456C1TT"), 8 + 17);
        c.due("it is the first field", Check.valueOf(x), "4.");
        String seven = "Ma{0".repeat(7);
        c.due("x as 24th of 24", Check.bodies(x, 0, seven + "x" + "}".repeat(7)), 15);
        body(x, 0, seven + "y" + "}".repeat(7), 28, 1);
        // One more field, of family 1: 25 in the scope.
        c.due("y as 25th of 25", Check.bodies(x, 1, seven + "Mb{1y}" + "}".repeat(7)), 17);
        body(x, 1, seven + "Mb{1z}" + "}".repeat(7), 32, 1);
        // Two more: 26 in the scope.
        c.due("z as 26th of 26", Check.bodies(x, 1, seven + "Mb{1Mb{1z}}" + "}".repeat(7)), 19);
        body(x, 1, seven + "Mb{1Mb{1{}}" + "}".repeat(7), 36, 1);
        c.due("behind the case", Check.bodies(x, 0, "+Ma{0+de}f"), -19);
        c.due("behind the match", Check.bodies(x, 0, "+Ma{0+ef}Ma{0d}"), 9);
    }

    /** "If the text ends too early, it is at its length, with reason 1." */
    private static void tooEarly() {
        BranchTypes x = new BranchTypes();
        Check.constructs(x, 0, "i,:i");
        Check.signs(x, "i,i,:d0i");
        String[] whole = {"+1-23", "?T12", "P<12=34", "LRP1P23", "C01", "G011", "+1MC01{0+12}", "MG012{0C0+12}"};
        for (String text : whole) {
            for (int end = 0; end < text.length(); end++) {
                run(x, text.substring(0, end), end, 1);
            }
        }
        for (String s : new String[] {"L", "M", "P", "?", "+", "-", "<", "=", "R"}) {
            BranchTypes y = new BranchTypes();
            run(y, s.repeat(100), 100, 1);
            run(y, s.repeat(99), 99, 1);
            run(y, "", 0, 1);
        }
    }

    /** "... or a byte after the end". */
    private static void behindTheEnd() {
        BranchTypes x = new BranchTypes();
        for (String whole : new String[] {"1", "T", "+12", "?T12", "P12", "LP12", "C0", "G0", "+1MC0{01}", "+1MC0{}"}) {
            x = new BranchTypes();
            Check.constructs(x, 0, ":i");
            Check.signs(x, ":i");
            for (String more : new String[] {"1", "}", "T", ",", " ", "+", "\0", "\177"}) {
                run(x, whole + more, whole.length(), 1);
            }
        }
        run(x, "1" + "2".repeat(99), 1, 1);
        run(x, "?T1" + sum(48) + "1", 98, 1);
    }

    /** "There are no separators or blanks." */
    private static void noBlanks() {
        for (String sign : new String[] {" ", ",", "\n", "\t", ";", "(", "\0"}) {
            BranchTypes x = new BranchTypes();
            Check.constructs(x, 0, "i,:i");
            for (String text : new String[] {"+12", "?T12", "C01", "+1MC01{02}"}) {
                c.due("whole " + text, Check.runs(x, text) > 0 ? 1 : 0, 1);
                for (int at = 0; at <= text.length(); at++) {
                    fault(text + " with a sign at " + at, Check.runs(x, text.substring(0, at) + sign + text.substring(at)), at);
                }
            }
            String signature = "u,i,:pud0i";
            for (int at = 0; at <= signature.length() && !sign.equals(","); at++) {
                fault(signature + " with a sign at " + at, Check.signs(x, signature.substring(0, at) + sign + signature.substring(at)), at);
            }
        }
    }

    /** "... the number of all bytes of the text plus the lengths of the signatures up to this one exceeds 240". */
    private static void tooHeavy() {
        BranchTypes x = new BranchTypes();
        Check.constructs(x, 0, ":" + LONG_TYPE);
        Check.signs(x, ":" + LONG_TYPE);
        // 8 signatures of 24 bytes leave 48 for the text.
        String eight = "PC0".repeat(7) + "PG0";
        c.due("240", Check.runs(x, eight + "L" + pairs(12)), OPEN);
        run(x, eight + pairs(13), 23, 2);
        c.due("239", Check.runs(x, eight + pairs(12)), OPEN);
        run(x, "PG0" + "PC0".repeat(7) + pairs(13), 23, 2);
        run(x, eight + "LC0", 26, 2);
        c.due("more bytes with seven", Check.runs(x, "PC0".repeat(7) + pairs(13)), 7 + 7 + 25);
        // 100 bytes bear five of them.
        x = new BranchTypes();
        Check.constructs(x, 0, ":" + LONG_TYPE);
        Check.signs(x, ":" + LONG_TYPE);
        run(x, eight + "L".repeat(76), 17, 2);
        run(x, "PC0".repeat(6) + "L".repeat(82), 17, 2);
        run(x, "PC0".repeat(5) + "L".repeat(85), 100, 1);
        // 100 bytes bear 35 signatures of 4 bytes.
        BranchTypes y = new BranchTypes();
        Check.constructs(y, 0, "u,:u");
        c.due("35 of them", Check.runs(y, "C0".repeat(35) + "L" + pairs(15)), 35 + 1 + 29);
        run(y, "C0".repeat(36) + "L" + pairs(14), 71, 2);
        run(y, "C0".repeat(50), 71, 2);
    }

    private static String pairs(int n) {
        return n == 1 ? "T" : "P" + pairs(n - n / 2) + pairs(n / 2);
    }

    /** A case has the weight of its constructor's signature too. */
    private static void heavyCases() {
        BranchTypes x = new BranchTypes();
        c.due("24 bytes", Check.constructs(x, 0, "pppuuuu,pppuuuu,ppuuu,:i"), 0);
        Check.signs(x, "d0i,:i");
        String eight = "Ma{0".repeat(8);
        c.due("240", Check.bodies(x, 0, eight + "?T+11+11" + "}".repeat(8)), 24);
        body(x, 0, eight + "+1+1+1+11" + "}".repeat(8), 31, 2);
        c.due("238", Check.bodies(x, 0, eight + "?T1+11" + "}".repeat(8)), 22);
        body(x, 0, eight + "Ma{01" + "}".repeat(9), 35, 2);
        body(x, 0, eight + "1" + "}".repeat(60), 27, 2);
        c.due("why", x.why(), 2);
    }

    /** "... whichever comes first." */
    private static void whicheverIsFirst() {
        BranchTypes x = new BranchTypes();
        Check.constructs(x, 0, ":" + LONG_TYPE);
        String seven = "PC0".repeat(7);
        // Bytes of the text and 8 signatures exceed 240 at the digit at 23, if the text has more than 48 bytes.
        run(x, seven + "PC0" + "}".repeat(25), 23, 2);
        run(x, seven + "PC0" + "}".repeat(24), 24, 1);
        run(x, seven + "}C0" + "T".repeat(25), 21, 1);
        run(x, seven + "P}0" + "T".repeat(25), 22, 1);
        run(x, seven + "PC1" + "T".repeat(25), 23, 1);
        run(x, seven + "PCx" + "T".repeat(25), 23, 1);
        run(x, seven + "aC0" + "T".repeat(25), 21, 1);
        run(x, "}" + "C0".repeat(20), 0, 1);
        // A fault of reading or of weight comes before any fault of checking.
        run(x, "+TC0" + "}".repeat(3), 4, 1);
        run(x, "+T" + seven + "PC0" + "T".repeat(25), 25, 2);
        run(x, "+TT", 1, 3);
    }

    /** bodies: "If there is a fault, the function stays as it was." */
    private static void functionStays() {
        BranchTypes x = new BranchTypes();
        Check.constructs(x, 0, ":i");
        Check.constructs(x, 0, ":b");
        Check.constructs(x, 1, ":i");
        Check.signs(x, "i,u,d0i,:i");
        String[] wrong = {"d", "", "+1", "+1T", "b", "LM1{}", "Ma{}", "Mb{}", "Mc{20}", "Mc{0000}", "Mc{10}", "Mc{}"};
        int[] at = {0, 0, 2, 2, 0, 1, 0, 0, 3, 5, 3, 0};
        int[] reason = {1, 1, 1, 3, 4, 5, 6, 6, 7, 7, 8, 9};
        for (int n = 0; n < wrong.length; n++) {
            body(x, 0, wrong[n], at[n], reason[n]);
            c.due("no body", x.function(0, 2), 0);
        }
        c.due("open", Check.runs(x, "G05TC0"), OPEN);
        c.due("a body", Check.bodies(x, 0, "+aMc{07}"), 5);
        for (int n = 0; n < wrong.length; n++) {
            body(x, 0, wrong[n], at[n], reason[n]);
            c.due("the body stays", x.function(0, 2), 5);
        }
        c.due("it runs", Check.runs(x, "G05TC0"), 9);
        c.due("its value", Check.valueOf(x), "12.");
        c.due("in place of it", Check.bodies(x, 0, "a"), 1);
        c.due("it runs", Check.runs(x, "G05TC0"), 5);
        c.due("its value", Check.valueOf(x), "5.");
    }

    /** begins: "Removes all constructors and functions, and declares those of a prepared set ... Everything else stays." */
    private static void prepared() {
        int[] constructors = {0, 5, 1, 2};
        int[] functions = {0, 1, 3, 2};
        String[] made = {"", "010 010 031 022 012", "001", "000 021"};
        String[] called = {"", "1.1.22", "2.2.3 1.2.3 2.3.3", "1.1.3 2.1.12"};
        for (int before = 0; before <= 3; before++) {
            for (int set = 0; set <= 3; set++) {
                BranchTypes x = new BranchTypes();
                x.begins(before);
                Check.write(x, "+1");
                c.due("set " + set, x.begins(set), constructors[set]);
                c.due("told", x.told(3) * 10 + x.told(4), constructors[set] * 10 + functions[set]);
                c.due("the text stays", x.told(5), 2);
                StringBuilder m = new StringBuilder();
                for (int k = 0; k < x.told(3); k++) {
                    m.append(k == 0 ? "" : " ").append(x.constructor(k, 0)).append(x.constructor(k, 1)).append(x.constructor(k, 2));
                }
                c.due("its constructors", m.toString(), made[set]);
                StringBuilder g = new StringBuilder();
                for (int f = 0; f < x.told(4); f++) {
                    g.append(f == 0 ? "" : " ").append(x.function(f, 0)).append('.').append(x.function(f, 1)).append('.').append(x.function(f, 2));
                }
                c.due("its functions", g.toString(), called[set]);
                c.due("no constructor more", x.constructor(constructors[set], 0), BAD);
                c.due("no function more", x.function(functions[set], 0), BAD);
                c.due("no fault", x.why(), 0);
            }
        }
    }

    /** A prepared set counts for the maxima as what is declared one by one. */
    private static void preparedAndMore() {
        int[] functions = {0, 1, 3, 2};
        for (int set = 1; set <= 3; set++) {
            BranchTypes x = new BranchTypes();
            x.begins(set);
            c.due("no constructor after it", Check.constructs(x, 0, ":i"), NO);
            for (int f = functions[set]; f < 6; f++) {
                c.due("function", x.told(5) > 0 ? x.signs() : Check.signs(x, ":i"), f);
                c.due("it has no body", x.function(f, 2), 0);
            }
            c.due("a seventh", Check.signs(x, ":i"), FULL);
            c.due("and again", x.begins(set), x.told(3));
            c.due("functions", x.told(4), functions[set]);
            c.due("one more", x.signs(), functions[set]);
            x.begins(0);
            for (int k = 0; k < 10; k++) {
                c.due("constructor", Check.constructs(x, 1, "w,:i"), k);
            }
            c.due("an eleventh", Check.constructs(x, 1, ":i"), FULL);
            c.due("nothing of the set is left", x.constructor(0, 0) * 10 + x.constructor(0, 1), 11);
        }
    }

    /** "2 the number of different variables in its signature". */
    private static void variables() {
        String[] texts = {":i", ":u", ":v", ":w", "u,:u", "u,:w", "w,v,u,:i", "puv,:pvw", "puu,puu,:puu", "d3d2w,:b", "i,i,w,:v"};
        int[] due = {0, 1, 1, 1, 1, 2, 3, 3, 1, 1, 2};
        for (int n = 0; n < texts.length; n++) {
            BranchTypes x = new BranchTypes();
            Check.constructs(x, n % 4, texts[n]);
            Check.signs(x, texts[n]);
            c.due("of constructor " + texts[n], x.constructor(0, 2), due[n]);
            c.due("of function " + texts[n], x.function(0, 1), due[n]);
            c.due("its family", x.constructor(0, 0), n % 4);
        }
    }

    /** "Returns the number of expressions of the body, all within one another counted": from 1 to 100. */
    private static void expressions() {
        BranchTypes x = new BranchTypes();
        Check.constructs(x, 0, "i,:i");
        Check.signs(x, "i,d0i,:i");
        String[] bodies = {"1", "a", "+1a", "?T1a", "LP1T", "G0aC0a", "Mb{0c}", "Mb{0+cMb{0d}}", "?T1" + sum(49)};
        int[] due = {1, 1, 3, 4, 4, 4, 3, 7, 100};
        for (int n = 0; n < bodies.length; n++) {
            c.due("expressions of " + bodies[n], Check.bodies(x, 0, bodies[n]), due[n]);
            c.due("function of " + bodies[n], x.function(0, 2), due[n]);
        }
        c.due("none of another one", Check.signs(x, ":i"), 1);
        c.due("as it has no body", x.function(1, 2), 0);
    }

    /** why: "1 to 9; 0 if there was no fault yet": the latest one, whatever was called since. */
    private static void reasons() {
        BranchTypes x = new BranchTypes();
        c.due("none", x.why(), 0);
        Check.runs(x, "1");
        x.constructs(9);
        x.closes();
        c.due("none yet", x.why(), 0);
        Check.constructs(x, 0, "?");
        c.due("of constructs", x.why(), 1);
        Check.runs(x, "+TT");
        c.due("of runs", x.why(), 3);
        Check.signs(x, "?");
        c.due("of signs", x.why(), 1);
        Check.signs(x, "u,:i");
        c.due("a right one changes nothing", x.why(), 1);
        Check.bodies(x, 0, "a");
        c.due("of bodies", x.why(), 4);
        Check.runs(x, "G01");
        c.due("OPEN is none", x.why(), 4);
        Check.bodies(x, 0, "1");
        c.due("nor a right body", x.why(), 4);
        x.begins(1);
        x.clear();
        c.due("nor a new beginning", x.why(), 4);
    }
}
