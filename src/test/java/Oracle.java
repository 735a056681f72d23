import java.util.ArrayList;
import java.util.List;

/**
 * The document once more, written for plainness alone: all classes are reckoned anew from the list of what was made
 * equal, faults and ends of runs are exceptions, expressions and values are trees. FuzzTest compares it with the class.
 */
final class Oracle {
    static final int NONE = -1, BAD = -2, NO = -3, FULL = -4, CLASH = -5, FIXED = -6, OPEN = -7, SPENT = -8, DEEP = -9;

    private static final class Fault extends RuntimeException {
        private static final long serialVersionUID = 1;
        final int at;
        final int reason;

        Fault(int at, int reason) {
            super(null, null, false, false);
            this.at = at;
            this.reason = reason;
        }
    }

    private static final class Ended extends RuntimeException {
        private static final long serialVersionUID = 1;
        final int code;

        Ended(int code) {
            super(null, null, false, false);
            this.code = code;
        }
    }

    // ---- types

    private record Type(int head, int x, int y, int depth) {
    }

    private record Equal(int a, int b, int depth) {
    }

    static final class Store {
        final List<Type> types = new ArrayList<>();
        final List<Equal> equals = new ArrayList<>();
        final List<Integer> before = new ArrayList<>();
        private int[] cached;

        int depth() {
            return before.size();
        }

        int find(int head, int x, int y) {
            for (int t = 0; t < types.size() && head <= 6; t++) {
                Type type = types.get(t);
                if (type.head == head && type.x == x && type.y == y) {
                    return t;
                }
            }
            return NONE;
        }

        int make(int head, int x, int y) {
            int found = find(head, x, y);
            if (found != NONE) {
                return found;
            }
            cached = null;
            types.add(new Type(head, x, y, depth()));
            return types.size() - 1;
        }

        void open() {
            before.add(types.size());
        }

        int close() {
            int keep = before.remove(before.size() - 1);
            int removed = types.size() - keep;
            while (types.size() > keep) {
                types.remove(types.size() - 1);
            }
            equals.removeIf(e -> e.depth > depth());
            cached = null;
            return removed;
        }

        /** For each type the lowest number of a type in its class. */
        int[] classes() {
            if (cached == null) {
                cached = closure();
            }
            return cached;
        }

        private int[] closure() {
            int n = types.size();
            int[] c = new int[n];
            for (int i = 0; i < n; i++) {
                c[i] = i;
            }
            for (Equal e : equals) {
                put(c, e.a, e.b);
            }
            boolean changed = true;
            while (changed) {
                changed = false;
                for (int i = 0; i < n; i++) {
                    Type s = types.get(i);
                    if (s.head < 2 || s.head > 6) {
                        continue;
                    }
                    for (int j = 0; j < i; j++) {
                        Type t = types.get(j);
                        if (t.head != s.head) {
                            continue;
                        }
                        boolean args = c[s.x] == c[t.x] && (s.head != 2 || c[s.y] == c[t.y]);
                        if (c[i] == c[j] && !args) {
                            put(c, s.x, t.x);
                            if (s.head == 2) {
                                put(c, s.y, t.y);
                            }
                            changed = true;
                        } else if (c[i] != c[j] && args) {
                            put(c, i, j);
                            changed = true;
                        }
                    }
                }
            }
            return c;
        }

        private static void put(int[] c, int a, int b) {
            int low = Math.min(c[a], c[b]);
            int high = Math.max(c[a], c[b]);
            for (int i = 0; i < c.length; i++) {
                if (c[i] == high) {
                    c[i] = low;
                }
            }
        }

        int countClasses() {
            int[] c = classes();
            int count = 0;
            for (int i = 0; i < c.length; i++) {
                if (c[i] == i) {
                    count++;
                }
            }
            return count;
        }

        int rep(int t) {
            int[] c = classes();
            int best = NONE;
            for (int i = 0; i < c.length; i++) {
                if (c[i] == c[t] && (best == NONE || rank(i) < rank(best))) {
                    best = i;
                }
            }
            return best;
        }

        private int rank(int t) {
            return Math.max(6, types.get(t).head);
        }

        int head(int t) {
            return types.get(rep(t)).head;
        }

        List<Integer> arguments(int t) {
            Type r = types.get(rep(t));
            List<Integer> out = new ArrayList<>();
            if (r.head >= 2 && r.head <= 6) {
                out.add(r.x);
            }
            if (r.head == 2) {
                out.add(r.y);
            }
            return out;
        }

        /** The classes of all types that a type contains, by their lowest numbers. */
        private void contained(int t, boolean[] out) {
            for (int a : arguments(t)) {
                int c = classes()[a];
                if (!out[c]) {
                    out[c] = true;
                    contained(a, out);
                }
            }
        }

        boolean known(int t) {
            boolean[] in = new boolean[types.size()];
            contained(t, in);
            in[classes()[t]] = true;
            for (int i = 0; i < in.length; i++) {
                if (in[i] && head(i) == 8) {
                    return false;
                }
            }
            return true;
        }

        int reach(int t) {
            boolean[] in = new boolean[types.size()];
            contained(t, in);
            in[classes()[t]] = true;
            int deepest = 0;
            for (int i = 0; i < in.length; i++) {
                if (in[i] && head(i) >= 7) {
                    deepest = Math.max(deepest, types.get(rep(i)).depth);
                }
            }
            return deepest;
        }

        int size(int t, int limit) {
            int sum = 1;
            for (int a : arguments(t)) {
                if (sum < limit) {
                    sum += size(a, limit - sum);
                }
            }
            return Math.min(sum, limit);
        }

        int unsolved() {
            int count = 0;
            for (int i = 0; i < types.size(); i++) {
                if (classes()[i] == i && head(i) == 8) {
                    count++;
                }
            }
            return count;
        }

        private boolean clashes() {
            int[] c = classes();
            for (int i = 0; i < c.length; i++) {
                int head = types.get(i).head;
                if (head <= 6 && head != head(i)) {
                    return true;
                }
            }
            for (int i = 0; i < c.length; i++) {
                if (c[i] == i) {
                    boolean[] in = new boolean[c.length];
                    contained(i, in);
                    if (in[i]) {
                        return true;
                    }
                }
            }
            return false;
        }

        int assume(int a, int b) {
            return equalize(a, b, new ArrayList<>());
        }

        int unify(int a, int b) {
            List<Integer> guarded = new ArrayList<>();
            for (int i = 0; i < types.size(); i++) {
                Type t = types.get(i);
                if ((t.head == 7 && head(i) == 7) || (t.head == 8 && t.depth < depth() && head(i) == 8)) {
                    guarded.add(i);
                }
            }
            return equalize(a, b, guarded);
        }

        private int equalize(int a, int b, List<Integer> guarded) {
            int[] old = classes();
            int countBefore = countClasses();
            equals.add(new Equal(a, b, depth()));
            cached = null;
            int answer = 0;
            if (clashes()) {
                answer = CLASH;
            } else if (disturbed(guarded, old)) {
                answer = FIXED;
            }
            if (answer < 0) {
                equals.remove(equals.size() - 1);
                cached = old;
                return answer;
            }
            return countBefore - countClasses();
        }

        private boolean disturbed(List<Integer> guarded, int[] old) {
            int[] now = classes();
            for (int i : guarded) {
                if (head(i) != types.get(i).head) {
                    return true;
                }
                for (int j : guarded) {
                    if (old[i] != old[j] && now[i] == now[j]) {
                        return true;
                    }
                }
            }
            return false;
        }
    }

    // ---- what is declared

    private static final class Decl {
        int family;
        String text;
        List<String> parts = new ArrayList<>();
        String last;
        Node body;
        int bodySize;

        int variables() {
            int n = 0;
            for (char v = 'u'; v <= 'w'; v++) {
                n += text.indexOf(v) >= 0 ? 1 : 0;
            }
            return n;
        }
    }

    private static final class Node {
        int at;
        char kind;
        int number;
        final List<Node> parts = new ArrayList<>();
        final List<Integer> caseAt = new ArrayList<>();
        final List<Integer> caseNumber = new ArrayList<>();
        final List<Node> caseBody = new ArrayList<>();
    }

    final Store bench = new Store();
    final StringBuilder text = new StringBuilder();
    final List<Decl> constructors = new ArrayList<>();
    final List<Decl> functions = new ArrayList<>();
    private int bads, nos, fulls, why, ranSteps, ranNesting;
    private String ranType = "", ranValue = "";

    private int bad() {
        bads++;
        return BAD;
    }

    private int no() {
        nos++;
        return NO;
    }

    private int full() {
        fulls++;
        return FULL;
    }

    private boolean is(int x) {
        return x >= 0 && x < bench.types.size();
    }

    int made(int head, int x, int y) {
        if (head < 0 || head > 8) {
            return bad();
        }
        boolean one = head >= 2 && head <= 6;
        if ((one && !is(x)) || (head == 2 && !is(y))) {
            return bad();
        }
        int a = one ? x : NONE;
        int b = head == 2 ? y : NONE;
        if (bench.find(head, a, b) == NONE && bench.types.size() == 60) {
            return full();
        }
        return bench.make(head, a, b);
    }

    int opens() {
        if (bench.depth() == 8) {
            return full();
        }
        bench.open();
        return bench.depth();
    }

    int closes() {
        return bench.depth() == 0 ? no() : bench.close();
    }

    int equates(int x, int y) {
        if (!is(x) || !is(y)) {
            return bad();
        }
        if (bench.depth() == 0 || !bench.known(x) || !bench.known(y)) {
            return no();
        }
        return bench.assume(x, y);
    }

    int unites(int x, int y) {
        return !is(x) || !is(y) ? bad() : bench.unify(x, y);
    }

    int would(int x, int y) {
        if (!is(x) || !is(y)) {
            return bad();
        }
        int answer = bench.unify(x, y);
        if (answer >= 0) {
            bench.equals.remove(bench.equals.size() - 1);
            bench.cached = null;
        }
        return answer;
    }

    int same(int x, int y) {
        if (!is(x) || !is(y)) {
            return bad();
        }
        return bench.classes()[x] == bench.classes()[y] ? 1 : 0;
    }

    int shape(int x, int what) {
        if (!is(x) || what < 0 || what > 5) {
            return bad();
        }
        List<Integer> arguments = bench.arguments(x);
        if (what == 0) {
            return bench.rep(x);
        } else if (what == 1) {
            return bench.head(x);
        } else if (what == 2 || what == 3) {
            return arguments.size() > what - 2 ? arguments.get(what - 2) : NONE;
        } else if (what == 4) {
            return bench.classes()[x];
        }
        int members = 0;
        for (int c : bench.classes()) {
            members += c == bench.classes()[x] ? 1 : 0;
        }
        return members;
    }

    int classes() {
        return bench.countClasses();
    }

    int measure(int x) {
        return is(x) ? bench.size(x, 9999) : bad();
    }

    int reach(int x) {
        return is(x) ? bench.reach(x) : bad();
    }

    int known(int x) {
        return !is(x) ? bad() : bench.known(x) ? 1 : 0;
    }

    int comes(int k, int x) {
        if (k < 0 || k >= constructors.size() || !is(x)) {
            return bad();
        }
        Decl d = constructors.get(k);
        if (bench.head(x) != 3 + d.family || !bench.known(bench.arguments(x).get(0))) {
            return no();
        }
        return possible(bench, d, bench.arguments(x).get(0)) ? 1 : 0;
    }

    int bench(int what) {
        switch (what) {
            case 0: return bench.types.size();
            case 1: return bench.depth();
            case 2: return bench.unsolved();
            default: return bad();
        }
    }

    int begins(int k) {
        if (k < 0 || k > 3) {
            return bad();
        }
        constructors.clear();
        functions.clear();
        if (k == 1) {
            prepare("i,:i d0i,:b d0b,d0u,d0u,:u d0u,d0v,:puv d0puv,:u",
                "d0u,:u Ma{0b1=G0b02?G0bG0cG0d3PG0bG0c4LG0b}");
        } else if (k == 2) {
            prepare(":puu", "d0puv,u,:v Ma{0b} d0puv,:d0pvu Ma{0C0} d0puv,d0pvw,:d0puw Ma{0b}");
        } else if (k == 3) {
            prepare(":i i,d0u,:piu", "d0piu,:i Ma{1b} d0u,d0u,:d0u Ma{0C01Mb{1C1+ceG1df}}");
        }
        return constructors.size();
    }

    private void prepare(String made, String called) {
        for (String s : made.split(" ")) {
            constructors.add(declaration(s, 0));
        }
        String[] words = called.split(" ");
        for (int i = 0; i < words.length; i += 2) {
            Decl d = declaration(words[i], 0);
            functions.add(d);
            give(d, words[i + 1]);
        }
    }

    /** The prepared bodies are checked too: they must have no fault. */
    private void give(Decl d, String body) {
        Parser parser = new Parser(body);
        Node node = parser.whole(d.parts.size());
        new Checker().body(node, d);
        d.body = node;
        d.bodySize = parser.count;
    }

    int type(int c) {
        if (c < 0 || c > 127) {
            return bad();
        }
        if (text.length() == 100) {
            return full();
        }
        text.append((char) c);
        return text.length();
    }

    int clear() {
        int length = text.length();
        text.setLength(0);
        return length;
    }

    private String taken() {
        String s = text.toString();
        text.setLength(0);
        return s;
    }

    private int told(Fault f) {
        why = f.reason;
        return -10 - f.at;
    }

    int constructs(int family) {
        if (family < 0 || family > 3) {
            return bad();
        }
        if (!functions.isEmpty()) {
            return no();
        }
        if (constructors.size() == 10) {
            return full();
        }
        try {
            constructors.add(declaration(taken(), family));
            return constructors.size() - 1;
        } catch (Fault f) {
            return told(f);
        }
    }

    int signs() {
        if (functions.size() == 6) {
            return full();
        }
        try {
            functions.add(declaration(taken(), 0));
            return functions.size() - 1;
        } catch (Fault f) {
            return told(f);
        }
    }

    int bodies(int f) {
        if (f < 0 || f >= functions.size()) {
            return bad();
        }
        try {
            give(functions.get(f), taken());
            return functions.get(f).bodySize;
        } catch (Fault fault) {
            return told(fault);
        }
    }

    int runs() {
        try {
            Node node = new Parser(taken()).whole(0);
            Checker checker = new Checker();
            int inferred = checker.infer(node, new ArrayList<>());
            Runner runner = new Runner();
            Value value = runner.run(node, new ArrayList<>(), 1);
            ranSteps = runner.steps;
            ranNesting = runner.deepest;
            ranType = checker.written(inferred, new StringBuilder()).toString();
            StringBuilder out = new StringBuilder();
            value.write(out);
            ranValue = out.toString();
            ranType = ranType.substring(0, Math.min(200, ranType.length()));
            ranValue = ranValue.substring(0, Math.min(200, ranValue.length()));
            return ranSteps;
        } catch (Fault f) {
            return told(f);
        } catch (Ended e) {
            return e.code;
        }
    }

    int why() {
        return why;
    }

    int constructor(int k, int what) {
        if (k < 0 || k >= constructors.size() || what < 0 || what > 2) {
            return bad();
        }
        Decl d = constructors.get(k);
        return what == 0 ? d.family : what == 1 ? d.parts.size() : d.variables();
    }

    int function(int f, int what) {
        if (f < 0 || f >= functions.size() || what < 0 || what > 2) {
            return bad();
        }
        Decl d = functions.get(f);
        return what == 0 ? d.parts.size() : what == 1 ? d.variables() : d.bodySize;
    }

    int ran(int what) {
        if (what < 0 || what > 3) {
            return bad();
        }
        return new int[] {ranSteps, ranNesting, ranType.length(), ranValue.length()}[what];
    }

    int typeAt(int i) {
        return i < 0 ? bad() : i < ranType.length() ? ranType.charAt(i) : NONE;
    }

    int valueAt(int i) {
        return i < 0 ? bad() : i < ranValue.length() ? ranValue.charAt(i) : NONE;
    }

    int told(int what) {
        if (what < 0 || what > 5) {
            return bad();
        }
        return new int[] {bads, nos, fulls, constructors.size(), functions.size(), text.length()}[what];
    }

    long digest() {
        List<Integer> numbers = new ArrayList<>();
        for (int i = 0; i <= 5; i++) {
            numbers.add(told(i));
        }
        for (int i = 0; i <= 2; i++) {
            numbers.add(bench(i));
        }
        for (int c : bench.classes()) {
            numbers.add(c);
        }
        numbers.add(why);
        for (int i = 0; i <= 3; i++) {
            numbers.add(ran(i));
        }
        long h = 1545;
        for (int n : numbers) {
            h = 31 * h + n;
        }
        return h;
    }

    /** The signature that was declared last. */
    String latestSignature() {
        List<Decl> from = functions.isEmpty() ? constructors : functions;
        return from.get(from.size() - 1).text;
    }

    // ---- reading

    private static Decl declaration(String s, int family) {
        SignatureParser p = new SignatureParser(s);
        Decl d = new Decl();
        d.family = family;
        d.text = s;
        while (d.parts.size() < 3 && p.peek() != ':') {
            d.parts.add(p.type());
            p.expect(',');
        }
        p.expect(':');
        d.last = p.type();
        if (p.at < s.length()) {
            throw new Fault(p.at, 1);
        }
        return d;
    }

    private static final class SignatureParser {
        final String s;
        int at;

        SignatureParser(String s) {
            this.s = s;
        }

        int peek() {
            return at < s.length() && at < 24 ? s.charAt(at) : NONE;
        }

        int next(String allowed) {
            int c = peek();
            if (c == NONE || allowed.indexOf(c) < 0) {
                throw new Fault(at, 1);
            }
            at++;
            return c;
        }

        void expect(char c) {
            next(String.valueOf(c));
        }

        String type() {
            int from = at;
            int c = next("ibpduvw");
            if (c == 'p') {
                type();
                type();
            } else if (c == 'd') {
                next("0123");
                type();
            }
            return s.substring(from, at);
        }
    }

    private final class Parser {
        final String s;
        int at;
        int count;
        int weight;

        Parser(String s) {
            this.s = s;
            weight = s.length();
        }

        int peek() {
            return at < s.length() ? s.charAt(at) : NONE;
        }

        Node whole(int scope) {
            Node n = expression(scope);
            if (at < s.length()) {
                throw new Fault(at, 1);
            }
            return n;
        }

        Decl named(List<Decl> from) {
            int n = peek() - '0';
            if (n < 0 || n > 9 || n >= from.size()) {
                throw new Fault(at, 1);
            }
            weight += from.get(n).text.length();
            if (weight > 240) {
                throw new Fault(at, 2);
            }
            at++;
            return from.get(n);
        }

        Node expression(int scope) {
            Node n = new Node();
            n.at = at;
            int c = peek();
            count++;
            if (c == NONE) {
                throw new Fault(at, 1);
            }
            n.kind = (char) c;
            int parts = 0;
            if (c >= 'a' && c <= 'z') {
                if (c - 'a' >= scope) {
                    throw new Fault(at, 1);
                }
            } else if ("0123456789TF".indexOf(c) < 0) {
                parts = "LR".indexOf(c) >= 0 ? 1 : "+-<=P".indexOf(c) >= 0 ? 2 : c == '?' ? 3 : "CGM".indexOf(c) >= 0 ? 0 : NONE;
                if (parts == NONE) {
                    throw new Fault(at, 1);
                }
            }
            at++;
            if (c == 'C' || c == 'G') {
                n.number = peek() - '0';
                parts = named(c == 'C' ? constructors : functions).parts.size();
            }
            for (int i = 0; i < parts; i++) {
                n.parts.add(expression(scope));
            }
            if (c == 'M') {
                match(n, scope);
            }
            return n;
        }

        private void match(Node n, int scope) {
            n.parts.add(expression(scope));
            if (peek() != '{') {
                throw new Fault(at, 1);
            }
            at++;
            while (peek() != '}') {
                n.caseAt.add(at);
                n.caseNumber.add(peek() - '0');
                Decl d = named(constructors);
                n.caseBody.add(expression(scope + d.parts.size()));
            }
            at++;
        }
    }

    // ---- checking

    /** Builds a type that is written in a signature. */
    private static int build(Store s, String written, int[] at, int[] variables, int head) {
        char c = written.charAt(at[0]++);
        if (c == 'i' || c == 'b') {
            return s.make(c == 'i' ? 0 : 1, NONE, NONE);
        }
        if (c == 'p') {
            int x = build(s, written, at, variables, head);
            int y = build(s, written, at, variables, head);
            return s.make(2, x, y);
        }
        if (c == 'd') {
            int family = written.charAt(at[0]++) - '0';
            return s.make(3 + family, build(s, written, at, variables, head), NONE);
        }
        if (variables[c - 'u'] == NONE) {
            variables[c - 'u'] = s.make(head, NONE, NONE);
        }
        return variables[c - 'u'];
    }

    /** The types of the parts of a declaration, then the one behind its colon. */
    private static List<Integer> instance(Store s, Decl d, int head) {
        int[] variables = {NONE, NONE, NONE};
        List<Integer> out = new ArrayList<>();
        for (String part : d.parts) {
            out.add(build(s, part, new int[1], variables, head));
        }
        out.add(build(s, d.last, new int[1], variables, head));
        return out;
    }

    private static boolean possible(Store s, Decl d, int index) {
        s.open();
        List<Integer> types = instance(s, d, 7);
        boolean fits = s.assume(types.get(d.parts.size()), index) != CLASH;
        s.close();
        return fits;
    }

    private final class Checker {
        final Store s = new Store();

        int integer() {
            return s.make(0, NONE, NONE);
        }

        int truth() {
            return s.make(1, NONE, NONE);
        }

        void body(Node n, Decl d) {
            List<Integer> types = instance(s, d, 7);
            int result = types.remove(d.parts.size());
            check(n, result, types);
        }

        void unify(int a, int b, Node n) {
            int answer = s.unify(a, b);
            if (answer < 0) {
                throw new Fault(n.at, answer == CLASH ? 3 : 4);
            }
        }

        void check(Node n, int t, List<Integer> scope) {
            if (n.kind == '?') {
                check(n.parts.get(0), truth(), scope);
                check(n.parts.get(1), t, scope);
                check(n.parts.get(2), t, scope);
            } else if (n.kind == 'P' && s.head(t) == 2) {
                List<Integer> arguments = s.arguments(t);
                check(n.parts.get(0), arguments.get(0), scope);
                check(n.parts.get(1), arguments.get(1), scope);
            } else if (n.kind == 'C' || n.kind == 'G') {
                List<Integer> types = called(n);
                unify(types.get(types.size() - 1), t, n);
                checkParts(n, types, scope);
            } else if (n.kind == 'M') {
                match(n, t, scope);
            } else {
                unify(infer(n, scope), t, n);
            }
        }

        List<Integer> called(Node n) {
            Decl d = (n.kind == 'C' ? constructors : functions).get(n.number);
            List<Integer> types = instance(s, d, 8);
            if (n.kind == 'C') {
                int last = types.remove(types.size() - 1);
                types.add(s.make(3 + d.family, last, NONE));
            }
            return types;
        }

        void checkParts(Node n, List<Integer> types, List<Integer> scope) {
            for (int i = 0; i < n.parts.size(); i++) {
                check(n.parts.get(i), types.get(i), scope);
            }
        }

        int infer(Node n, List<Integer> scope) {
            switch (n.kind) {
                case 'T': case 'F':
                    return truth();
                case '+': case '-': case '<': case '=':
                    check(n.parts.get(0), integer(), scope);
                    check(n.parts.get(1), integer(), scope);
                    return n.kind == '+' || n.kind == '-' ? integer() : truth();
                case '?': {
                    check(n.parts.get(0), truth(), scope);
                    int t = infer(n.parts.get(1), scope);
                    check(n.parts.get(2), t, scope);
                    return t;
                }
                case 'P': {
                    int x = infer(n.parts.get(0), scope);
                    int y = infer(n.parts.get(1), scope);
                    return s.make(2, x, y);
                }
                case 'L': case 'R': {
                    int t = infer(n.parts.get(0), scope);
                    if (s.head(t) != 2) {
                        int x = s.make(8, NONE, NONE);
                        int y = s.make(8, NONE, NONE);
                        unify(t, s.make(2, x, y), n);
                    }
                    return s.arguments(t).get(n.kind == 'L' ? 0 : 1);
                }
                case 'C': case 'G': {
                    List<Integer> types = called(n);
                    checkParts(n, types, scope);
                    return types.get(types.size() - 1);
                }
                case 'M':
                    throw new Fault(n.at, 5);
                default:
                    return n.kind >= 'a' ? scope.get(n.kind - 'a') : integer();
            }
        }

        void match(Node n, int t, List<Integer> scope) {
            int matched = infer(n.parts.get(0), scope);
            int family = s.head(matched) - 3;
            if (family < 0 || family > 3 || !s.known(s.arguments(matched).get(0))) {
                throw new Fault(n.at, 6);
            }
            int index = s.arguments(matched).get(0);
            for (int i = 0; i < n.caseAt.size(); i++) {
                int k = n.caseNumber.get(i);
                Decl d = constructors.get(k);
                if (d.family != family || n.caseNumber.indexOf(k) < i) {
                    throw new Fault(n.caseAt.get(i), 7);
                }
                s.open();
                List<Integer> types = instance(s, d, 7);
                int own = types.remove(d.parts.size());
                if (s.assume(own, index) == CLASH) {
                    throw new Fault(n.caseAt.get(i), 8);
                }
                List<Integer> inner = new ArrayList<>(scope);
                inner.addAll(types);
                check(n.caseBody.get(i), t, inner);
                s.close();
            }
            for (int k = 0; k < constructors.size(); k++) {
                Decl d = constructors.get(k);
                if (d.family == family && !n.caseNumber.contains(k) && possible(s, d, index)) {
                    throw new Fault(n.at, 9);
                }
            }
        }

        StringBuilder written(int t, StringBuilder out) {
            if (out.length() > 200) {
                return out;
            }
            int head = s.head(t);
            out.append(head == 0 ? "i" : head == 1 ? "b" : head == 2 ? "p" : head <= 6 ? "d" + (head - 3) : head == 7 ? "!" : "_");
            for (int a : s.arguments(t)) {
                written(a, out);
            }
            return out;
        }
    }

    // ---- running

    private static final class Value {
        final String word;
        final int number;
        final List<Value> parts;

        Value(String word, int number, List<Value> parts) {
            this.word = word;
            this.number = number;
            this.parts = parts;
        }

        void write(StringBuilder out) {
            if (out.length() > 200) {
                return;
            }
            out.append(word);
            for (Value part : parts) {
                part.write(out);
            }
        }
    }

    private final class Runner {
        int steps;
        int deepest;

        Value number(int n) {
            return new Value(n + ".", n, List.of());
        }

        Value truth(boolean b) {
            return new Value(b ? "T" : "F", b ? 1 : 0, List.of());
        }

        Value run(Node n, List<Value> scope, int nesting) {
            if (++steps > 1000) {
                throw new Ended(SPENT);
            }
            if (nesting > 60) {
                throw new Ended(DEEP);
            }
            deepest = Math.max(deepest, nesting);
            if (n.kind == '?') {
                boolean chosen = run(n.parts.get(0), scope, nesting + 1).number == 1;
                return run(n.parts.get(chosen ? 1 : 2), scope, nesting + 1);
            }
            if (n.kind == 'M') {
                Value v = run(n.parts.get(0), scope, nesting + 1);
                List<Value> inner = new ArrayList<>(scope);
                inner.addAll(v.parts);
                return run(n.caseBody.get(n.caseNumber.indexOf(v.number)), inner, nesting + 1);
            }
            List<Value> v = new ArrayList<>();
            for (Node part : n.parts) {
                v.add(run(part, scope, nesting + 1));
            }
            switch (n.kind) {
                case 'T': return truth(true);
                case 'F': return truth(false);
                case '+': return number(v.get(0).number + v.get(1).number);
                case '-': return number(v.get(0).number - v.get(1).number);
                case '<': return truth(v.get(0).number < v.get(1).number);
                case '=': return truth(v.get(0).number == v.get(1).number);
                case 'P': return new Value("P", 0, v);
                case 'L': return v.get(0).parts.get(0);
                case 'R': return v.get(0).parts.get(1);
                case 'C': return new Value("C" + n.number, n.number, v);
                case 'G':
                    if (functions.get(n.number).body == null) {
                        throw new Ended(OPEN);
                    }
                    return run(functions.get(n.number).body, v, nesting + 1);
                default:
                    return n.kind >= 'a' ? scope.get(n.kind - 'a') : number(n.kind - '0');
            }
        }
    }
}
