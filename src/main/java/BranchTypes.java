/**
 * A type checker and evaluator for a small language with generalized algebraic data types.
 * Every row is made in a constructor and used again, so that no call makes an object.
 */
public final class BranchTypes {
    public static final int NONE = -1, BAD = -2, NO = -3, FULL = -4, CLASH = -5, FIXED = -6, OPEN = -7, SPENT = -8, DEEP = -9;

    private static final int INT = 0, BOOL = 1, PAIR = 2, FAMILY = 3, RIGID = 7, FLEXIBLE = 8;
    private static final int MAX_TYPES = 60, MAX_BRANCHES = 8, MAX_SIZE = 9999;
    private static final int MAX_TEXT = 100, MAX_SIGNATURE = 24, MAX_PARTS = 3, MAX_WEIGHT = 240, MAX_BYTE = 127;
    private static final int FAMILIES = 4, VARIABLES = 3, MAX_CONSTRUCTORS = 10, MAX_FUNCTIONS = 6;
    private static final int MAX_STEPS = 1000, MAX_NESTING = 60, MAX_KEPT = 200;
    private static final int FIRST_FAULT = -10;

    private static final int MISPLACED = 1, HEAVY = 2, UNEQUAL = 3, PROTECTED = 4, UNINFERRED = 5;
    private static final int UNMATCHED = 6, FOREIGN = 7, IMPOSSIBLE = 8, MISSING = 9;

    /** The bench and the types of one signature, which comes() builds for a moment. */
    private static final int BENCH_ROOM = MAX_TYPES + MAX_SIGNATURE;
    /** A text of 100 bytes makes at most 3 types a byte; its signatures, what is left of its weight. */
    private static final int CHECK_ROOM = 3 * MAX_TEXT + (MAX_WEIGHT - MAX_TEXT) + 3 * MAX_SIGNATURE;
    /** A nested match takes five bytes of a text at least, and needs a branch. */
    private static final int BRANCH_ROOM = 32;
    /** A run nests 60 deep, and each level has three values at most in its scope and three that are held. */
    private static final int SCOPE_ROOM = MAX_PARTS * (MAX_NESTING + 4), HELD_ROOM = MAX_PARTS * (MAX_NESTING + 4);
    private static final int WRITE_ROOM = (MAX_PARTS + 1) * MAX_KEPT;

    private final World bench = new World(BENCH_ROOM);
    private final Code text = new Code();
    private final Code draft = new Code();
    private final Program program = new Program();
    private final Reader reader = new Reader(program);
    private final Checker checker = new Checker(program);
    private final Machine machine = new Machine(program);
    private final Kept ranType = new Kept();
    private final Kept ranValue = new Kept();
    private int ranSteps;
    private int ranNesting;
    private int latestReason;
    private int badCount;
    private int noCount;
    private int fullCount;

    public BranchTypes() {
    }

    public int made(int head, int x, int y) {
        if (head < INT || head > FLEXIBLE) {
            return bad();
        }
        int arity = arityOf(head);
        Types types = bench.types;
        if ((arity > 0 && !types.has(x)) || (arity > 1 && !types.has(y))) {
            return bad();
        }
        int first = arity > 0 ? x : NONE;
        int second = arity > 1 ? y : NONE;
        if (types.count >= MAX_TYPES && types.find(head, first, second) == NONE) {
            return full();
        }
        return types.obtain(head, first, second);
    }

    public int opens() {
        if (bench.types.depth >= MAX_BRANCHES) {
            return full();
        }
        bench.types.openBranch();
        return bench.types.depth;
    }

    public int closes() {
        if (bench.types.depth == 0) {
            return no();
        }
        int before = bench.types.count;
        bench.types.closeBranch();
        return before - bench.types.count;
    }

    public int equates(int x, int y) {
        if (!areTypes(x, y)) {
            return bad();
        }
        if (bench.types.depth == 0 || !bench.walk.isKnown(x) || !bench.walk.isKnown(y)) {
            return no();
        }
        return bench.unifier.join(x, y, false);
    }

    public int unites(int x, int y) {
        return areTypes(x, y) ? bench.unifier.join(x, y, true) : bad();
    }

    public int would(int x, int y) {
        if (!areTypes(x, y)) {
            return bad();
        }
        int before = bench.types.links;
        int answer = bench.unifier.join(x, y, true);
        bench.types.undo(before);
        return answer;
    }

    public int same(int x, int y) {
        if (!areTypes(x, y)) {
            return bad();
        }
        return bench.types.root(x) == bench.types.root(y) ? 1 : 0;
    }

    public int shape(int x, int what) {
        Types types = bench.types;
        if (!types.has(x)) {
            return bad();
        }
        int lead = types.leadOf(x);
        switch (what) {
            case 0: return lead;
            case 1: return types.head[lead];
            case 2: return types.first[lead];
            case 3: return types.second[lead];
            case 4: return types.lowestOf(x);
            case 5: return types.sizeOf(x);
            default: return bad();
        }
    }

    public int classes() {
        return bench.types.count - bench.types.links;
    }

    public int measure(int x) {
        return bench.types.has(x) ? bench.walk.sizeOf(x) : bad();
    }

    public int reach(int x) {
        return bench.types.has(x) ? bench.walk.deepestOf(x) : bad();
    }

    public int known(int x) {
        if (!bench.types.has(x)) {
            return bad();
        }
        return bench.walk.isKnown(x) ? 1 : 0;
    }

    public int comes(int k, int x) {
        Signature signature = program.constructorOf(k);
        if (signature == null || !bench.types.has(x)) {
            return bad();
        }
        if (bench.familyOf(x) != signature.family || !bench.walk.isKnown(bench.indexOf(x))) {
            return no();
        }
        return bench.admits(program, signature.family, ~(1 << k), bench.indexOf(x)) ? 1 : 0;
    }

    public int bench(int what) {
        switch (what) {
            case 0: return bench.types.count;
            case 1: return bench.types.depth;
            case 2: return bench.types.unsolvedClasses();
            default: return bad();
        }
    }

    public int begins(int k) {
        if (k < 0 || k > 3) {
            return bad();
        }
        program.empty();
        if (k == 1) {
            prepareConstructor("i,:i");
            prepareConstructor("d0i,:b");
            prepareConstructor("d0b,d0u,d0u,:u");
            prepareConstructor("d0u,d0v,:puv");
            prepareConstructor("d0puv,:u");
            prepareFunction("d0u,:u", "Ma{0b1=G0b02?G0bG0cG0d3PG0bG0c4LG0b}");
        } else if (k == 2) {
            prepareConstructor(":puu");
            prepareFunction("d0puv,u,:v", "Ma{0b}");
            prepareFunction("d0puv,:d0pvu", "Ma{0C0}");
            prepareFunction("d0puv,d0pvw,:d0puw", "Ma{0b}");
        } else if (k == 3) {
            prepareConstructor(":i");
            prepareConstructor("i,d0u,:piu");
            prepareFunction("d0piu,:i", "Ma{1b}");
            prepareFunction("d0u,d0u,:d0u", "Ma{0C01Mb{1C1+ceG1df}}");
        }
        return program.constructorCount;
    }

    public int type(int c) {
        if (c < 0 || c > MAX_BYTE) {
            return bad();
        }
        if (text.length >= MAX_TEXT) {
            return full();
        }
        text.append(c);
        return text.length;
    }

    public int clear() {
        int before = text.length;
        text.empty();
        return before;
    }

    public int constructs(int family) {
        if (family < 0 || family >= FAMILIES) {
            return bad();
        }
        if (program.functionCount > 0) {
            return no();
        }
        if (program.constructorCount >= MAX_CONSTRUCTORS) {
            return full();
        }
        return emptied(declareConstructor(text, family) ? program.constructorCount - 1 : faulty());
    }

    public int signs() {
        if (program.functionCount >= MAX_FUNCTIONS) {
            return full();
        }
        return emptied(declareFunction(text) ? program.functionCount - 1 : faulty());
    }

    public int bodies(int f) {
        Signature signature = program.functionOf(f);
        if (signature == null) {
            return bad();
        }
        if (!reader.readExpression(text, signature.parts) || !checker.checkBody(text, signature)) {
            return emptied(faulty());
        }
        program.giveBody(f, text);
        return emptied(text.expressions);
    }

    public int runs() {
        int inferred = reader.readExpression(text, 0) ? checker.inferAlone(text) : NONE;
        if (inferred == NONE) {
            return emptied(faulty());
        }
        int value = machine.run(text);
        if (value < 0) {
            return emptied(value);
        }
        ranSteps = machine.steps;
        ranNesting = machine.deepest;
        checker.write(inferred, ranType);
        machine.write(value, ranValue);
        return emptied(ranSteps);
    }

    public int why() {
        return latestReason;
    }

    public int constructor(int k, int what) {
        Signature signature = program.constructorOf(k);
        if (signature == null) {
            return bad();
        }
        switch (what) {
            case 0: return signature.family;
            case 1: return signature.parts;
            case 2: return signature.variables;
            default: return bad();
        }
    }

    public int function(int f, int what) {
        Signature signature = program.functionOf(f);
        if (signature == null) {
            return bad();
        }
        switch (what) {
            case 0: return signature.parts;
            case 1: return signature.variables;
            case 2: return program.bodySizeOf(f);
            default: return bad();
        }
    }

    public int ran(int what) {
        switch (what) {
            case 0: return ranSteps;
            case 1: return ranNesting;
            case 2: return ranType.count;
            case 3: return ranValue.count;
            default: return bad();
        }
    }

    public int typeAt(int i) {
        return i < 0 ? bad() : ranType.byteAt(i);
    }

    public int valueAt(int i) {
        return i < 0 ? bad() : ranValue.byteAt(i);
    }

    public int told(int what) {
        switch (what) {
            case 0: return badCount;
            case 1: return noCount;
            case 2: return fullCount;
            case 3: return program.constructorCount;
            case 4: return program.functionCount;
            case 5: return text.length;
            default: return bad();
        }
    }

    public long digest() {
        long h = 1545;
        for (int what = 0; what <= 5; what++) {
            h = 31 * h + told(what);
        }
        for (int what = 0; what <= 2; what++) {
            h = 31 * h + bench(what);
        }
        for (int x = 0; x < bench.types.count; x++) {
            h = 31 * h + bench.types.lowestOf(x);
        }
        h = 31 * h + latestReason;
        for (int what = 0; what <= 3; what++) {
            h = 31 * h + ran(what);
        }
        return h;
    }

    private int bad() {
        badCount++;
        return BAD;
    }

    private int no() {
        noCount++;
        return NO;
    }

    private int full() {
        fullCount++;
        return FULL;
    }

    private boolean areTypes(int x, int y) {
        return bench.types.has(x) && bench.types.has(y);
    }

    /** The answer of a call that has read the text. */
    private int emptied(int answer) {
        text.empty();
        return answer;
    }

    private int faulty() {
        latestReason = text.faultReason;
        return FIRST_FAULT - text.faultAt;
    }

    private boolean declareConstructor(Code written, int family) {
        Signature slot = program.nextConstructor();
        if (slot == null || !reader.readSignature(written, slot)) {
            return false;
        }
        slot.family = family;
        program.constructorCount++;
        return true;
    }

    private boolean declareFunction(Code written) {
        Signature slot = program.nextFunction();
        if (slot == null || !reader.readSignature(written, slot)) {
            return false;
        }
        program.addFunction();
        return true;
    }

    private void prepareConstructor(String signature) {
        draft.fill(signature);
        declareConstructor(draft, 0);
    }

    private void prepareFunction(String signature, String body) {
        draft.fill(signature);
        if (!declareFunction(draft)) {
            return;
        }
        int f = program.functionCount - 1;
        Signature declared = program.functionOf(f);
        draft.fill(body);
        if (declared != null && reader.readExpression(draft, declared.parts)) {
            program.giveBody(f, draft);
        }
    }

    private static int arityOf(int head) {
        if (head == PAIR) {
            return 2;
        }
        return isFamily(head) ? 1 : 0;
    }

    private static boolean isFamily(int head) {
        return head >= FAMILY && head < FAMILY + FAMILIES;
    }

    /** The number of parts of an expression with this first byte; NONE if its first byte does not tell. */
    private static int partsOf(int c) {
        if ((c >= '0' && c <= '9') || (c >= 'a' && c <= 'z') || c == 'T' || c == 'F') {
            return 0;
        }
        switch (c) {
            case 'L': case 'R': return 1;
            case '+': case '-': case '<': case '=': case 'P': return 2;
            case '?': return 3;
            default: return NONE;
        }
    }

    /** The bytes of a text and, for each position where an expression begins, the position behind it. */
    static final class Code {
        private final int[] bytes = new int[MAX_TEXT];
        private final int[] ends = new int[MAX_TEXT];
        int length;
        int expressions;
        int faultAt;
        int faultReason;

        int byteAt(int at) {
            return at >= 0 && at < length ? bytes[at] : NONE;
        }

        int digitAt(int at) {
            boolean isDigit = at >= 0 && at < length && bytes[at] >= '0' && bytes[at] <= '9';
            return isDigit ? bytes[at] - '0' : NONE;
        }

        /** The position behind the expression that begins here: never before it, so that whoever goes on gets on. */
        int behind(int at) {
            return at >= 0 && at < length ? Math.max(ends[at], at + 1) : length;
        }

        /** Notes the fault of this text; answers NONE, which stands for "no end" and "no type" where a fault is met. */
        int fault(int at, int reason) {
            faultAt = at;
            faultReason = reason;
            return NONE;
        }

        void noteEnd(int at, int end) {
            if (at >= 0 && at < length) {
                ends[at] = end;
            }
        }

        void append(int c) {
            if (length < MAX_TEXT) {
                bytes[length] = c;
                length++;
            }
        }

        void empty() {
            length = 0;
        }

        void fill(String written) {
            empty();
            for (int i = 0; i < written.length(); i++) {
                append(written.charAt(i));
            }
        }

        void copyFrom(Code other) {
            for (int i = 0; i < other.length; i++) {
                bytes[i] = other.bytes[i];
                ends[i] = other.ends[i];
            }
            length = other.length;
            expressions = other.expressions;
        }
    }

    /** What a constructor or a function is declared with; its parts are its fields or parameters. */
    static final class Signature {
        private final int[] bytes = new int[MAX_SIGNATURE];
        int length;
        int parts;
        int variables;
        int family;

        int byteAt(int at) {
            return at >= 0 && at < length ? bytes[at] : NONE;
        }

        void take(Code written, int partCount) {
            length = Math.min(written.length, MAX_SIGNATURE);
            parts = partCount;
            int seen = 0;
            for (int i = 0; i < length; i++) {
                int c = written.byteAt(i);
                bytes[i] = c;
                if (c >= 'u' && c < 'u' + VARIABLES) {
                    seen |= 1 << (c - 'u');
                }
            }
            variables = Integer.bitCount(seen);
        }
    }

    /** The constructors and functions that are declared. */
    static final class Program {
        private final Signature[] constructors = new Signature[MAX_CONSTRUCTORS];
        private final Signature[] functions = new Signature[MAX_FUNCTIONS];
        private final Code[] bodyCodes = new Code[MAX_FUNCTIONS];
        private final boolean[] hasBody = new boolean[MAX_FUNCTIONS];
        int constructorCount;
        int functionCount;

        Program() {
            for (int k = 0; k < MAX_CONSTRUCTORS; k++) {
                constructors[k] = new Signature();
            }
            for (int f = 0; f < MAX_FUNCTIONS; f++) {
                functions[f] = new Signature();
                bodyCodes[f] = new Code();
            }
        }

        void empty() {
            constructorCount = 0;
            functionCount = 0;
        }

        Signature constructorOf(int k) {
            return k >= 0 && k < constructorCount ? constructors[k] : null;
        }

        Signature functionOf(int f) {
            return f >= 0 && f < functionCount ? functions[f] : null;
        }

        Signature nextConstructor() {
            return constructorCount < MAX_CONSTRUCTORS ? constructors[constructorCount] : null;
        }

        Signature nextFunction() {
            return functionCount < MAX_FUNCTIONS ? functions[functionCount] : null;
        }

        void addFunction() {
            if (functionCount < MAX_FUNCTIONS) {
                hasBody[functionCount] = false;
                functionCount++;
            }
        }

        Code bodyOf(int f) {
            return f >= 0 && f < functionCount && hasBody[f] ? bodyCodes[f] : null;
        }

        int bodySizeOf(int f) {
            Code body = bodyOf(f);
            return body == null ? 0 : body.expressions;
        }

        void giveBody(int f, Code body) {
            if (f >= 0 && f < functionCount) {
                bodyCodes[f].copyFrom(body);
                hasBody[f] = true;
            }
        }

        /** The signature that a C or G at this position names; null if it is not declared. */
        Signature calledAt(Code code, int at) {
            int number = code.digitAt(at + 1);
            return code.byteAt(at) == 'G' ? functionOf(number) : constructorOf(number);
        }
    }

    /** Reads signatures and expressions; of an expression it notes where each one within it ends. */
    static final class Reader {
        private final Program program;
        private Code code;
        private int weight;

        Reader(Program program) {
            this.program = program;
        }

        boolean readSignature(Code written, Signature into) {
            int limit = Math.min(written.length, MAX_SIGNATURE);
            int at = 0;
            int parts = 0;
            while (parts < MAX_PARTS && written.byteAt(at) != ':') {
                at = readType(written, at, limit);
                if (at == NONE || !stands(written, at, limit, ',')) {
                    return false;
                }
                at++;
                parts++;
            }
            if (!stands(written, at, limit, ':')) {
                return false;
            }
            at = readType(written, at + 1, limit);
            if (at == NONE) {
                return false;
            }
            if (at < written.length) {
                written.fault(at, MISPLACED);
                return false;
            }
            into.take(written, parts);
            return true;
        }

        private boolean stands(Code written, int at, int limit, int wanted) {
            if (at < limit && written.byteAt(at) == wanted) {
                return true;
            }
            written.fault(at, MISPLACED);
            return false;
        }

        private int readType(Code written, int from, int limit) {
            int needed = 1;
            int at = from;
            for (; at < limit && needed > 0; at++) {
                int c = written.byteAt(at);
                if (c == 'p') {
                    needed++;
                } else if (c == 'd') {
                    at++;
                    int family = at < limit ? written.digitAt(at) : NONE;
                    if (family == NONE || family >= FAMILIES) {
                        return written.fault(at, MISPLACED);
                    }
                } else if (c == 'i' || c == 'b' || (c >= 'u' && c < 'u' + VARIABLES)) {
                    needed--;
                } else {
                    return written.fault(at, MISPLACED);
                }
            }
            return needed > 0 ? written.fault(at, MISPLACED) : at;
        }

        boolean readExpression(Code written, int scope) {
            code = written;
            code.expressions = 0;
            weight = code.length;
            int end = read(0, scope);
            if (end != NONE && end < code.length) {
                end = code.fault(end, MISPLACED);
            }
            return end != NONE;
        }

        /** Each call stands behind the one that it is called from, so that the text's length bounds the depth. */
        private int read(int at, int scope) {
            int c = code.byteAt(at);
            code.expressions++;
            int end;
            if (c == 'M') {
                end = readMatch(at, scope);
            } else {
                int parts = readHead(at, scope);
                end = c == 'C' || c == 'G' ? at + 2 : at + 1;
                for (int n = 0; n < parts && end != NONE; n++) {
                    end = read(end, scope);
                }
                if (parts == NONE) {
                    end = NONE;
                }
            }
            code.noteEnd(at, end);
            return end;
        }

        /** The number of parts of the expression that begins here. */
        private int readHead(int at, int scope) {
            int c = code.byteAt(at);
            if (c == 'C' || c == 'G') {
                Signature called = program.calledAt(code, at);
                return bears(called, at + 1) ? called.parts : NONE;
            }
            int parts = partsOf(c);
            boolean outside = c >= 'a' && c <= 'z' && c - 'a' >= scope;
            return parts == NONE || outside ? code.fault(at, MISPLACED) : parts;
        }

        private int readMatch(int at, int scope) {
            int end = read(at + 1, scope);
            if (end == NONE) {
                return NONE;
            }
            if (code.byteAt(end) != '{') {
                return code.fault(end, MISPLACED);
            }
            end++;
            for (int n = 0; n < MAX_TEXT && code.byteAt(end) != '}'; n++) {
                Signature made = program.constructorOf(code.digitAt(end));
                if (!bears(made, end)) {
                    return NONE;
                }
                end = read(end + 1, scope + made.parts);
                if (end == NONE) {
                    return NONE;
                }
            }
            return end + 1;
        }

        /** Whether the digit here names something, and the text can bear its weight. */
        private boolean bears(Signature named, int digit) {
            if (named == null) {
                code.fault(digit, MISPLACED);
                return false;
            }
            weight += named.length;
            if (weight > MAX_WEIGHT) {
                code.fault(digit, HEAVY);
                return false;
            }
            return true;
        }
    }

    /** Types in classes and in branches. Those that live are numbered by age, so that a lower one is never deeper. */
    static final class Types {
        /** Above every number, so that a lead's rank counts before its number. */
        private static final int RANK = 1024;
        final int[] head;
        final int[] first;
        final int[] second;
        final int[] born;
        private final int[] parent;
        private final int[] size;
        private final int[] lead;
        private final int[] lowest;
        private final int[] linked;
        private final int[] oldLead;
        private final int[] oldLowest;
        private final int[] countBefore = new int[BRANCH_ROOM];
        private final int[] linksBefore = new int[BRANCH_ROOM];
        int count;
        int links;
        int depth;

        Types(int room) {
            head = new int[room];
            first = new int[room];
            second = new int[room];
            born = new int[room];
            parent = new int[room];
            size = new int[room];
            lead = new int[room];
            lowest = new int[room];
            linked = new int[room];
            oldLead = new int[room];
            oldLowest = new int[room];
        }

        void empty() {
            count = 0;
            links = 0;
            depth = 0;
        }

        boolean has(int x) {
            return x >= 0 && x < count;
        }

        /** The type that stands for the class of this one, or NONE; no path is shortened, so that links can be undone. */
        int root(int x) {
            if (x < 0 || x >= count) {
                return NONE;
            }
            int r = x;
            for (int n = 0; n < count && parent[r] != r; n++) {
                r = parent[r];
            }
            return r;
        }

        /** The representative of a root's class; type 0 where there is no class, so that its place can be looked at. */
        int leadAt(int root) {
            return root >= 0 && root < count ? lead[root] % RANK : 0;
        }

        int leadOf(int x) {
            return leadAt(root(x));
        }

        int headOf(int x) {
            return head[leadAt(root(x))];
        }

        int lowestOf(int x) {
            int root = root(x);
            return root == NONE ? NONE : lowest[root];
        }

        int sizeOf(int x) {
            int root = root(x);
            return root == NONE ? 0 : size[root];
        }

        /** The type with this head and these arguments by their numbers; a variable is always another one. */
        int find(int wanted, int x, int y) {
            for (int t = 0; t < count && wanted < RIGID; t++) {
                if (head[t] == wanted && first[t] == x && second[t] == y) {
                    return t;
                }
            }
            return NONE;
        }

        /** Finds a type or creates it, in the class of those that have arguments of the same classes. */
        int obtain(int wanted, int x, int y) {
            int twin = NONE;
            int left = root(x);
            int right = root(y);
            for (int t = 0; t < count && wanted < RIGID; t++) {
                if (head[t] == wanted && root(first[t]) == left && root(second[t]) == right) {
                    twin = t;
                    if (first[t] == x && second[t] == y) {
                        return t;
                    }
                }
            }
            if (count >= head.length) {
                // The rooms are reckoned to be enough; if one weren't, an old type would stand in.
                return 0;
            }
            int made = count;
            count++;
            head[made] = wanted;
            first[made] = x;
            second[made] = y;
            born[made] = depth;
            parent[made] = made;
            size[made] = 1;
            lead[made] = rankOf(wanted) * RANK + made;
            lowest[made] = made;
            if (twin != NONE) {
                link(root(twin), made);
            }
            return made;
        }

        private static int rankOf(int head) {
            return head < RIGID ? 0 : head - RIGID + 1;
        }

        void link(int a, int b) {
            if (a == b || a < 0 || b < 0 || links >= linked.length) {
                return;
            }
            int big = size[a] < size[b] ? b : a;
            int small = big == a ? b : a;
            linked[links] = small;
            oldLead[links] = lead[big];
            oldLowest[links] = lowest[big];
            links++;
            parent[small] = big;
            size[big] += size[small];
            lead[big] = Math.min(lead[big], lead[small]);
            lowest[big] = Math.min(lowest[big], lowest[small]);
        }

        void undo(int before) {
            while (links > before && links > 0) {
                links--;
                int small = linked[links];
                int big = parent[small];
                parent[small] = small;
                size[big] -= size[small];
                lead[big] = oldLead[links];
                lowest[big] = oldLowest[links];
            }
        }

        void openBranch() {
            if (depth < BRANCH_ROOM) {
                countBefore[depth] = count;
                linksBefore[depth] = links;
            }
            depth++;
        }

        void closeBranch() {
            if (depth <= 0) {
                return;
            }
            depth--;
            if (depth < BRANCH_ROOM) {
                undo(linksBefore[depth]);
                count = countBefore[depth];
            }
        }

        int unsolvedClasses() {
            int unsolved = 0;
            for (int x = 0; x < count; x++) {
                if (head[x] == FLEXIBLE && leadOf(x) == x) {
                    unsolved++;
                }
            }
            return unsolved;
        }
    }

    /** Walks through the classes that a type contains, the contained ones first. */
    static final class Walk {
        private static final int UNSEEN = 0, ENTERED = 1, LEFT = 2;
        private final Types types;
        private final int[] state;
        private final int[] path;
        private final int[] turn;
        private final int[] order;
        private final int[] size;
        private int walked;

        Walk(Types types, int room) {
            this.types = types;
            state = new int[room];
            path = new int[room];
            turn = new int[room];
            order = new int[room];
            size = new int[room];
        }

        boolean isKnown(int x) {
            visit(x, x + 1);
            for (int n = 0; n < walked; n++) {
                if (types.head[types.leadAt(order[n])] == FLEXIBLE) {
                    return false;
                }
            }
            return true;
        }

        int deepestOf(int x) {
            visit(x, x + 1);
            int deepest = 0;
            for (int n = 0; n < walked; n++) {
                int lead = types.leadAt(order[n]);
                if (types.head[lead] >= RIGID) {
                    deepest = Math.max(deepest, types.born[lead]);
                }
            }
            return deepest;
        }

        int sizeOf(int x) {
            visit(x, x + 1);
            for (int n = 0; n < walked; n++) {
                int lead = types.leadAt(order[n]);
                int sum = 1 + sizeOfArgument(types.first[lead]) + sizeOfArgument(types.second[lead]);
                size[order[n]] = Math.min(sum, MAX_SIZE);
            }
            return sizeOfArgument(x);
        }

        private int sizeOfArgument(int argument) {
            int root = types.root(argument);
            return root == NONE ? 0 : size[root];
        }

        /**
         * Visits what the types of a range contain; whether none of it contains a type of its own class.
         * Goes along explicit rows, as types can be nested deeper than calls should be.
         */
        boolean visit(int from, int to) {
            walked = 0;
            for (int x = 0; x < types.count; x++) {
                state[x] = UNSEEN;
            }
            int start = from;
            int top = NONE;
            for (int n = 0; n <= 4 * types.count && (top != NONE || start < to); n++) {
                int next = NONE;
                if (top == NONE) {
                    next = types.root(start);
                    start++;
                } else if (turn[top] < 2) {
                    int lead = types.leadAt(path[top]);
                    next = types.root(turn[top] == 0 ? types.first[lead] : types.second[lead]);
                    turn[top]++;
                } else {
                    state[path[top]] = LEFT;
                    order[walked] = path[top];
                    walked++;
                    top--;
                }
                if (next != NONE && state[next] == ENTERED) {
                    return false;
                }
                if (next != NONE && state[next] == UNSEEN) {
                    top++;
                    path[top] = next;
                    turn[top] = 0;
                    state[next] = ENTERED;
                }
            }
            return true;
        }
    }

    /** Makes types equal, and with them all that follows. */
    static final class Unifier {
        private final Types types;
        private final Walk walk;
        private final int[] left;
        private final int[] right;
        private final int[] bucket;
        private final int[] next;
        private int pending;
        private boolean touched;

        Unifier(Types types, Walk walk, int room) {
            this.types = types;
            this.walk = walk;
            left = new int[2 * room];
            right = new int[2 * room];
            bucket = new int[room];
            next = new int[room];
        }

        /** By how many the classes decrease; CLASH, or FIXED if variables are protected, and then nothing changes. */
        int join(int x, int y, boolean protecting) {
            int before = types.links;
            pending = 0;
            touched = false;
            push(x, y);
            boolean fits = settle();
            for (int n = 0; n < types.count && fits && types.links > before && pushTwins(); n++) {
                fits = settle();
            }
            int answer = types.links - before;
            if (!fits || (answer > 0 && !walk.visit(0, types.count))) {
                answer = CLASH;
            } else if (protecting && touched) {
                answer = FIXED;
            }
            if (answer < 0) {
                types.undo(before);
            }
            return answer;
        }

        private void push(int x, int y) {
            if (x != NONE && y != NONE && pending < left.length) {
                left[pending] = x;
                right[pending] = y;
                pending++;
            }
        }

        /** Links what is pending, and what follows for arguments; whether no class has two heads. */
        private boolean settle() {
            for (int n = 0; n < 4 * left.length && pending > 0; n++) {
                pending--;
                int a = types.root(left[pending]);
                int b = types.root(right[pending]);
                if (a == b) {
                    continue;
                }
                int x = types.leadAt(a);
                int y = types.leadAt(b);
                boolean formed = types.head[x] < RIGID && types.head[y] < RIGID;
                if (formed && types.head[x] != types.head[y]) {
                    return false;
                }
                // A protected variable may only be joined by free ones; a clash that is found later still counts first.
                touched = touched || (!formed && !isFree(x) && !isFree(y));
                types.link(a, b);
                if (formed) {
                    push(types.first[x], types.first[y]);
                    push(types.second[x], types.second[y]);
                }
            }
            return true;
        }

        /** The lowest flexible variable of a class is its least deep one, so that the representative tells for all. */
        private boolean isFree(int lead) {
            return types.head[lead] == FLEXIBLE && types.born[lead] >= types.depth;
        }

        /**
         * Finds types of different classes that have one head and arguments of the same classes; whether there are any.
         * Representatives are enough, as the arguments of their class's other types are in the classes of theirs.
         */
        private boolean pushTwins() {
            for (int x = 0; x < types.count; x++) {
                bucket[x] = NONE;
            }
            for (int x = 0; x < types.count; x++) {
                int place = types.root(types.first[x]);
                if (place == NONE || types.leadOf(x) != x) {
                    continue;
                }
                int twin = twinIn(bucket[place], x);
                if (twin == NONE) {
                    next[x] = bucket[place];
                    bucket[place] = x;
                } else {
                    push(twin, x);
                }
            }
            return pending > 0;
        }

        private int twinIn(int chain, int x) {
            int second = types.root(types.second[x]);
            int other = chain;
            for (int n = 0; n < types.count && other != NONE; n++) {
                if (types.head[other] == types.head[x] && types.root(types.second[other]) == second) {
                    return other;
                }
                other = next[other];
            }
            return NONE;
        }
    }

    /** Types with all that works on them: the bench is one, and an expression is checked in another. */
    static final class World {
        final Types types;
        final Walk walk;
        final Unifier unifier;
        private final int[] variables = new int[VARIABLES];
        private final int[] built = new int[MAX_SIGNATURE];
        private int top;

        World(int room) {
            types = new Types(room);
            walk = new Walk(types, room);
            unifier = new Unifier(types, walk, room);
        }

        /** The family of a type's representative, or NONE. */
        int familyOf(int x) {
            int head = types.headOf(x);
            return isFamily(head) ? head - FAMILY : NONE;
        }

        /** The first argument of a type's representative; the type itself if there is none. */
        int indexOf(int x) {
            int lead = types.leadOf(x);
            return types.first[lead] == NONE ? x : types.first[lead];
        }

        /** Builds the types of a signature from its end on, so that the arguments of a type are there before it. */
        void build(Signature signature, int variableHead) {
            top = 0;
            for (int n = 0; n < VARIABLES; n++) {
                variables[n] = NONE;
            }
            for (int at = signature.length - 1; at >= 0; at--) {
                int c = signature.byteAt(at);
                if (c == 'p' && top > 1) {
                    top--;
                    built[top - 1] = types.obtain(PAIR, built[top], built[top - 1]);
                } else if (c == 'd' && top > 0) {
                    built[top - 1] = types.obtain(FAMILY + signature.byteAt(at + 1) - '0', built[top - 1], NONE);
                } else if ((c == 'i' || c == 'b') && top < MAX_SIGNATURE) {
                    built[top] = types.obtain(c == 'i' ? INT : BOOL, NONE, NONE);
                    top++;
                } else if (c >= 'u' && c < 'u' + VARIABLES && top < MAX_SIGNATURE) {
                    int known = variables[c - 'u'];
                    built[top] = known == NONE ? types.obtain(variableHead, NONE, NONE) : known;
                    variables[c - 'u'] = built[top];
                    top++;
                }
            }
        }

        /** The type of a field or parameter that was built; behind them all, the type behind the colon. */
        int partAt(int n) {
            int place = top - 1 - n;
            return place >= 0 && place < top ? built[place] : 0;
        }

        /** Whether a constructor of a family, but none of a set of them, can have made a value with this index. */
        boolean admits(Program program, int family, int without, int index) {
            boolean possible = false;
            for (int k = 0; k < program.constructorCount && !possible; k++) {
                Signature other = program.constructorOf(k);
                if (other != null && other.family == family && (without & (1 << k)) == 0) {
                    types.openBranch();
                    build(other, RIGID);
                    possible = unifier.join(partAt(other.parts), index, false) != CLASH;
                    types.closeBranch();
                }
            }
            return possible;
        }
    }

    /** Checks expressions, each in an empty world. */
    static final class Checker {
        private final Program program;
        private final World world = new World(CHECK_ROOM);
        private final int[] scope = new int[SCOPE_ROOM];
        private final int[] held = new int[HELD_ROOM];
        private final int[] stack = new int[WRITE_ROOM];
        private int scopeSize;
        private int heldSize;
        private Code code;
        private int integer;
        private int truth;

        Checker(Program program) {
            this.program = program;
        }

        boolean checkBody(Code body, Signature signature) {
            begin(body);
            world.build(signature, RIGID);
            extendScope(signature.parts);
            return check(0, world.partAt(signature.parts));
        }

        /** The type of an expression without a scope; NONE if it has a fault. */
        int inferAlone(Code alone) {
            begin(alone);
            return infer(0);
        }

        private void begin(Code checked) {
            code = checked;
            world.types.empty();
            integer = world.types.obtain(INT, NONE, NONE);
            truth = world.types.obtain(BOOL, NONE, NONE);
            scopeSize = 0;
            heldSize = 0;
        }

        private void extendScope(int parts) {
            for (int n = 0; n < parts && scopeSize < SCOPE_ROOM; n++) {
                scope[scopeSize] = world.partAt(n);
                scopeSize++;
            }
        }

        /** Each call stands behind the one that it is called from, so that the text's length bounds the depth. */
        private boolean check(int at, int goal) {
            int one = at + 1;
            int two = code.behind(one);
            switch (code.byteAt(at)) {
                case '?':
                    return check(one, truth) && check(two, goal) && check(code.behind(two), goal);
                case 'P':
                    if (world.types.headOf(goal) != PAIR) {
                        return agrees(infer(at), goal, at);
                    }
                    int pair = world.types.leadOf(goal);
                    return check(one, world.types.first[pair]) && check(two, world.types.second[pair]);
                case 'C':
                case 'G':
                    return call(at, goal) != NONE;
                case 'M':
                    return checkMatch(at, goal);
                default:
                    return agrees(infer(at), goal, at);
            }
        }

        private int infer(int at) {
            int one = at + 1;
            int two = code.behind(one);
            int c = code.byteAt(at);
            switch (c) {
                case '+':
                case '-':
                    return check(one, integer) && check(two, integer) ? integer : NONE;
                case '<':
                case '=':
                    return check(one, integer) && check(two, integer) ? truth : NONE;
                case '?':
                    int chosen = check(one, truth) ? infer(two) : NONE;
                    return chosen != NONE && check(code.behind(two), chosen) ? chosen : NONE;
                case 'P':
                    int x = infer(one);
                    int y = x == NONE ? NONE : infer(two);
                    return y == NONE ? NONE : world.types.obtain(PAIR, x, y);
                case 'L':
                case 'R':
                    int whole = infer(one);
                    boolean fits = whole != NONE && (world.types.headOf(whole) == PAIR || agrees(whole, freshPair(), at));
                    return fits ? partOf(whole, c) : NONE;
                case 'C':
                case 'G':
                    return call(at, NONE);
                case 'M':
                    return code.fault(at, UNINFERRED);
                default:
                    return leaf(c);
            }
        }

        private int leaf(int c) {
            int place = c - 'a';
            if (place >= 0 && place < scopeSize) {
                return scope[place];
            }
            return c == 'T' || c == 'F' ? truth : integer;
        }

        private int freshPair() {
            int x = world.types.obtain(FLEXIBLE, NONE, NONE);
            int y = world.types.obtain(FLEXIBLE, NONE, NONE);
            return world.types.obtain(PAIR, x, y);
        }

        private int partOf(int whole, int c) {
            int pair = world.types.leadOf(whole);
            return c == 'L' ? world.types.first[pair] : world.types.second[pair];
        }

        private boolean fails(int at, int reason) {
            code.fault(at, reason);
            return false;
        }

        /** Whether a type, if there is one, is unified with the goal; otherwise there is a fault. */
        private boolean agrees(int type, int goal, int at) {
            if (type == NONE) {
                return false;
            }
            int answer = world.unifier.join(type, goal, true);
            return answer >= 0 || fails(at, answer == CLASH ? UNEQUAL : PROTECTED);
        }

        /** Checks a C or G, against the goal if there is one; its type, or NONE if there is a fault. */
        private int call(int at, int goal) {
            Signature called = program.calledAt(code, at);
            if (called == null || heldSize + called.parts > HELD_ROOM) {
                return code.fault(at, MISPLACED);
            }
            world.build(called, FLEXIBLE);
            int result = world.partAt(called.parts);
            int base = heldSize;
            for (int n = 0; n < called.parts; n++) {
                held[base + n] = world.partAt(n);
            }
            heldSize = base + called.parts;
            if (code.byteAt(at) == 'C') {
                result = world.types.obtain(FAMILY + called.family, result, NONE);
            }
            if (goal != NONE && !agrees(result, goal, at)) {
                return NONE;
            }
            int part = at + 2;
            for (int n = 0; n < called.parts; n++) {
                if (!check(part, held[base + n])) {
                    return NONE;
                }
                part = code.behind(part);
            }
            heldSize = base;
            return result;
        }

        private boolean checkMatch(int at, int goal) {
            int matched = infer(at + 1);
            if (matched == NONE) {
                return false;
            }
            int family = world.familyOf(matched);
            int index = world.indexOf(matched);
            if (family == NONE || !world.walk.isKnown(index)) {
                return fails(at, UNMATCHED);
            }
            int seen = 0;
            int digit = code.behind(at + 1) + 1;
            for (int n = 0; n < MAX_TEXT && code.digitAt(digit) != NONE; n++) {
                int bit = 1 << code.digitAt(digit);
                Signature made = program.constructorOf(code.digitAt(digit));
                if (made == null || made.family != family || (seen & bit) != 0) {
                    return fails(digit, FOREIGN);
                }
                seen |= bit;
                if (!checkCase(digit, made, index, goal)) {
                    return false;
                }
                digit = code.behind(digit + 1);
            }
            return !world.admits(program, family, seen, index) || fails(at, MISSING);
        }

        private boolean checkCase(int digit, Signature made, int index, int goal) {
            int scopeBefore = scopeSize;
            world.types.openBranch();
            world.build(made, RIGID);
            if (world.unifier.join(world.partAt(made.parts), index, false) == CLASH) {
                return fails(digit, IMPOSSIBLE);
            }
            extendScope(made.parts);
            boolean fits = check(digit + 1, goal);
            world.types.closeBranch();
            scopeSize = scopeBefore;
            return fits;
        }

        /** Each type written gives a byte at least, so that no more of them than are kept need be looked at. */
        void write(int type, Kept out) {
            Types types = world.types;
            out.empty();
            stack[0] = type;
            int top = 1;
            for (int n = 0; n < MAX_KEPT && top > 0; n++) {
                top--;
                int lead = types.leadOf(stack[top]);
                writeHead(types.head[lead], out);
                if (types.has(types.second[lead])) {
                    stack[top] = types.second[lead];
                    top++;
                }
                if (types.has(types.first[lead])) {
                    stack[top] = types.first[lead];
                    top++;
                }
            }
        }

        private static void writeHead(int head, Kept out) {
            if (isFamily(head)) {
                out.put('d');
                out.put('0' + head - FAMILY);
            } else if (head == PAIR) {
                out.put('p');
            } else if (head >= RIGID) {
                out.put('_');
            } else {
                out.put(head == INT ? 'i' : 'b');
            }
        }
    }

    /** Evaluates expressions. A value is a number of its rows: a constructor's, or one of three other kinds. */
    static final class Machine {
        private static final int NUMBER = MAX_CONSTRUCTORS, TRUTH = MAX_CONSTRUCTORS + 1, COUPLE = MAX_CONSTRUCTORS + 2;
        private final Program program;
        private final int[] kind = new int[MAX_STEPS];
        private final int[] width = new int[MAX_STEPS];
        private final int[] content = new int[MAX_PARTS * MAX_STEPS];
        private final int[] scope = new int[SCOPE_ROOM];
        private final int[] held = new int[HELD_ROOM];
        private final int[] stack = new int[WRITE_ROOM];
        private int values;
        private int scopeSize;
        private int heldSize;
        int steps;
        int deepest;

        Machine(Program program) {
            this.program = program;
        }

        /** The value of a checked expression; OPEN, SPENT or DEEP if there is none. */
        int run(Code code) {
            values = 0;
            scopeSize = 0;
            heldSize = 0;
            steps = 0;
            deepest = 0;
            return evaluate(code, 0, 0, 1);
        }

        /** The scope is what stands in the row of that name from the base on. */
        private int evaluate(Code code, int at, int base, int nesting) {
            steps++;
            if (steps > MAX_STEPS) {
                return SPENT;
            }
            if (nesting > MAX_NESTING) {
                return DEEP;
            }
            deepest = Math.max(deepest, nesting);
            int c = code.byteAt(at);
            if (c == '?') {
                return choose(code, at, base, nesting);
            }
            if (c == 'M') {
                return match(code, at, base, nesting);
            }
            boolean calling = c == 'C' || c == 'G';
            Signature called = calling ? program.calledAt(code, at) : null;
            int parts = called == null ? partsOf(c) : called.parts;
            int part = calling ? at + 2 : at + 1;
            int heldBefore = heldSize;
            for (int n = 0; n < parts; n++) {
                int value = evaluate(code, part, base, nesting + 1);
                if (value < 0) {
                    return value;
                }
                hold(value);
                part = code.behind(part);
            }
            int value = c == 'G' ? enter(code.digitAt(at + 1), heldBefore, nesting) : compose(code, at, base, heldBefore);
            heldSize = heldBefore;
            return value;
        }

        private int choose(Code code, int at, int base, int nesting) {
            int test = evaluate(code, at + 1, base, nesting + 1);
            if (test < 0) {
                return test;
            }
            int chosen = code.behind(at + 1);
            if (contentOf(test) == 0) {
                chosen = code.behind(chosen);
            }
            return evaluate(code, chosen, base, nesting + 1);
        }

        private int match(Code code, int at, int base, int nesting) {
            int value = evaluate(code, at + 1, base, nesting + 1);
            if (value < 0) {
                return value;
            }
            int digit = code.behind(at + 1) + 1;
            for (int n = 0; n < MAX_TEXT && code.digitAt(digit) != NONE && code.digitAt(digit) != kindOf(value); n++) {
                digit = code.behind(digit + 1);
            }
            int scopeBefore = scopeSize;
            for (int n = 0; n < widthOf(value); n++) {
                extendScope(partOf(value, n));
            }
            int outcome = evaluate(code, digit + 1, base, nesting + 1);
            scopeSize = scopeBefore;
            return outcome;
        }

        /** Evaluates the body of a function, its parameters being what is held from a place on. */
        private int enter(int f, int from, int nesting) {
            Code body = program.bodyOf(f);
            if (body == null) {
                return OPEN;
            }
            int base = scopeSize;
            for (int n = from; n < heldSize; n++) {
                extendScope(held[n]);
            }
            int value = evaluate(body, 0, base, nesting + 1);
            scopeSize = base;
            return value;
        }

        /** The value of an expression whose parts are held from a place on. */
        private int compose(Code code, int at, int base, int from) {
            int c = code.byteAt(at);
            int x = heldAt(from);
            int y = heldAt(from + 1);
            switch (c) {
                case '+': return single(NUMBER, contentOf(x) + contentOf(y));
                case '-': return single(NUMBER, contentOf(x) - contentOf(y));
                case '<': return single(TRUTH, contentOf(x) < contentOf(y) ? 1 : 0);
                case '=': return single(TRUTH, contentOf(x) == contentOf(y) ? 1 : 0);
                case 'T': return single(TRUTH, 1);
                case 'F': return single(TRUTH, 0);
                case 'L': return partOf(x, 0);
                case 'R': return partOf(x, 1);
                case 'P': return composed(COUPLE, from);
                case 'C': return composed(code.digitAt(at + 1), from);
                default: return c >= 'a' ? scopeAt(base + c - 'a') : single(NUMBER, c - '0');
            }
        }

        private int single(int newKind, int number) {
            int value = composed(newKind, heldSize);
            content[MAX_PARTS * value] = number;
            return value;
        }

        private int composed(int newKind, int from) {
            int value = Math.min(values, MAX_STEPS - 1);
            values = value + 1;
            kind[value] = newKind;
            width[value] = Math.min(heldSize - from, MAX_PARTS);
            for (int n = 0; n < width[value]; n++) {
                content[MAX_PARTS * value + n] = held[from + n];
            }
            return value;
        }

        private boolean has(int value) {
            return value >= 0 && value < values;
        }

        private int kindOf(int value) {
            return has(value) ? kind[value] : NUMBER;
        }

        private int widthOf(int value) {
            return has(value) ? width[value] : 0;
        }

        /** What a value without parts holds: its number, or 1 or 0 for true or false. */
        private int contentOf(int value) {
            return has(value) ? content[MAX_PARTS * value] : 0;
        }

        private int partOf(int value, int n) {
            return n >= 0 && n < widthOf(value) ? content[MAX_PARTS * value + n] : value;
        }

        private void hold(int value) {
            if (heldSize < HELD_ROOM) {
                held[heldSize] = value;
                heldSize++;
            }
        }

        private int heldAt(int place) {
            return place >= 0 && place < heldSize ? held[place] : 0;
        }

        private void extendScope(int value) {
            if (scopeSize < SCOPE_ROOM) {
                scope[scopeSize] = value;
                scopeSize++;
            }
        }

        private int scopeAt(int place) {
            return place >= 0 && place < scopeSize ? scope[place] : 0;
        }

        /** Each value written gives a byte at least, so that no more of them than are kept need be looked at. */
        void write(int value, Kept out) {
            out.empty();
            stack[0] = value;
            int top = 1;
            for (int n = 0; n < MAX_KEPT && top > 0; n++) {
                top--;
                int written = stack[top];
                writeHead(written, out);
                for (int part = widthOf(written) - 1; part >= 0; part--) {
                    stack[top] = partOf(written, part);
                    top++;
                }
            }
        }

        private void writeHead(int value, Kept out) {
            int sort = kindOf(value);
            if (sort == NUMBER) {
                out.putNumber(contentOf(value));
            } else if (sort == TRUTH) {
                out.put(contentOf(value) == 0 ? 'F' : 'T');
            } else if (sort == COUPLE) {
                out.put('P');
            } else {
                out.put('C');
                out.put('0' + sort);
            }
        }
    }

    /** The first bytes of what is written. */
    static final class Kept {
        private final int[] bytes = new int[MAX_KEPT];
        int count;

        void empty() {
            count = 0;
        }

        void put(int c) {
            if (count < MAX_KEPT) {
                bytes[count] = c;
                count++;
            }
        }

        void putNumber(int number) {
            long rest = Math.abs((long) number);
            if (number < 0) {
                put('-');
            }
            long power = 1;
            for (int n = 0; n < 10 && power * 10 <= rest; n++) {
                power *= 10;
            }
            for (; power > 0; power /= 10) {
                put('0' + (int) (rest / power % 10));
            }
            put('.');
        }

        int byteAt(int i) {
            return i >= 0 && i < count ? bytes[i] : NONE;
        }
    }
}
