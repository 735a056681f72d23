import java.util.ArrayList;
import java.util.HashMap;
import java.util.List;
import java.util.Map;
import java.util.Random;

/** Makes random declarations, and random expressions that mostly have the type that is wanted. */
final class ExpressionMaker {
    /** A type: i, b, p with two arguments, a digit (family) with one, or a variable named by any other letter. */
    record Ty(char kind, List<Ty> args) {
        String written() {
            StringBuilder b = new StringBuilder();
            b.append(kind >= '0' && kind <= '3' ? "d" + kind : String.valueOf(kind));
            for (Ty a : args) {
                b.append(a.written());
            }
            return b.toString();
        }
    }

    record Sig(int family, List<Ty> parts, Ty last) {
        String written() {
            StringBuilder b = new StringBuilder();
            for (Ty t : parts) {
                b.append(t.written()).append(',');
            }
            return b.append(':').append(last.written()).toString();
        }
    }

    final List<Sig> constructors = new ArrayList<>();
    final List<Sig> functions = new ArrayList<>();
    private final Random r;
    private final int noise;
    /** Whether it rather calls functions and constructors, so that there is more to evaluate. */
    boolean calling;
    private int fresh;

    ExpressionMaker(Random r, int noise) {
        this.r = r;
        this.noise = noise;
    }

    static Ty ty(char kind, Ty... args) {
        return new Ty(kind, List.of(args));
    }

    static Sig parse(int family, String s) {
        int[] at = new int[1];
        List<Ty> parts = new ArrayList<>();
        while (s.charAt(at[0]) != ':') {
            parts.add(parseType(s, at));
            at[0]++;
        }
        at[0]++;
        return new Sig(family, parts, parseType(s, at));
    }

    private static Ty parseType(String s, int[] at) {
        char c = s.charAt(at[0]++);
        if (c == 'p') {
            Ty x = parseType(s, at);
            return ty('p', x, parseType(s, at));
        }
        if (c == 'd') {
            char f = s.charAt(at[0]++);
            return ty(f, parseType(s, at));
        }
        return ty(c);
    }

    Ty randomType(String variables, int depth) {
        int n = r.nextInt(10);
        if (depth <= 0 || n < 5) {
            String leaves = "ib" + variables + variables;
            return ty(leaves.charAt(r.nextInt(leaves.length())));
        }
        if (n < 7) {
            return ty('p', randomType(variables, depth - 1), randomType(variables, depth - 1));
        }
        return ty((char) ('0' + (r.nextInt(3) == 0 ? r.nextInt(4) : 0)), randomType(variables, depth - 1));
    }

    Sig randomSig(int family) {
        List<Ty> parts = new ArrayList<>();
        int n = r.nextInt(4);
        for (int i = 0; i < n; i++) {
            parts.add(randomType("uvw", 2));
        }
        return new Sig(family, parts, randomType("uvw", 2));
    }

    private static Ty apply(Map<Character, Ty> s, Ty t) {
        if (t.args.isEmpty()) {
            Ty to = s.get(t.kind);
            return to == null ? t : apply(s, to);
        }
        List<Ty> args = new ArrayList<>();
        for (Ty a : t.args) {
            args.add(apply(s, a));
        }
        return new Ty(t.kind, args);
    }

    private static boolean occurs(char v, Ty t) {
        if (t.args.isEmpty()) {
            return t.kind == v;
        }
        for (Ty a : t.args) {
            if (occurs(v, a)) {
                return true;
            }
        }
        return false;
    }

    private static boolean isVariable(Ty t) {
        return t.args.isEmpty() && t.kind != 'i' && t.kind != 'b';
    }

    /** Makes both equal by binding variables, those below a bound alone if it is given. */
    private static boolean unify(Map<Character, Ty> s, Ty a, Ty b, char bound) {
        Ty x = apply(s, a);
        Ty y = apply(s, b);
        if (x.equals(y)) {
            return true;
        }
        if (isVariable(x) && x.kind < bound) {
            if (occurs(x.kind, y)) {
                return false;
            }
            s.put(x.kind, y);
            return true;
        }
        if (isVariable(y) && y.kind < bound) {
            if (occurs(y.kind, x)) {
                return false;
            }
            s.put(y.kind, x);
            return true;
        }
        if (x.kind != y.kind || x.args.size() != y.args.size()) {
            return false;
        }
        for (int i = 0; i < x.args.size(); i++) {
            if (!unify(s, x.args.get(i), y.args.get(i), bound)) {
                return false;
            }
        }
        return true;
    }

    private static final char RIGID = 0x1000;

    /** A signature with other variables: rigid ones are named above a bound, the others below it. */
    Sig instance(Sig sig, boolean rigid) {
        Map<Character, Ty> s = new HashMap<>();
        for (char v = 'u'; v <= 'w'; v++) {
            fresh++;
            s.put(v, ty((char) ((rigid ? RIGID : 0x100) + fresh % 0xe00)));
        }
        List<Ty> parts = new ArrayList<>();
        for (Ty t : sig.parts) {
            parts.add(apply(s, t));
        }
        return new Sig(sig.family, parts, apply(s, sig.last));
    }

    String make(Ty goal, List<Ty> scope, int fuel) {
        if (noise > 0 && r.nextInt(noise) == 0) {
            return junk(scope, fuel);
        }
        if (fuel <= 0 || (!calling && r.nextInt(4) == 0)) {
            String leaf = leaf(goal, scope);
            if (leaf != null) {
                return leaf;
            }
        }
        if (fuel > -4) {
            for (int tries = calling ? -6 : 0; tries < 6; tries++) {
                String s = attempt(goal, scope, fuel);
                if (s != null) {
                    return s;
                }
            }
        }
        String leaf = leaf(goal, scope);
        return leaf != null ? leaf : junk(scope, 0);
    }

    private String leaf(Ty goal, List<Ty> scope) {
        int start = r.nextInt(scope.size() + 1);
        for (int i = 0; i < scope.size(); i++) {
            int n = (start + i) % scope.size();
            if (scope.get(n).equals(goal) && n < 26) {
                return String.valueOf((char) ('a' + n));
            }
        }
        if (goal.kind == 'i') {
            return String.valueOf(r.nextInt(10));
        }
        return goal.kind == 'b' ? (r.nextBoolean() ? "T" : "F") : null;
    }

    private String attempt(Ty goal, List<Ty> scope, int fuel) {
        Ty i = ty('i');
        Ty b = ty('b');
        int half = Math.min(fuel / 2, fuel) - 1;
        if (calling && r.nextInt(5) > 0) {
            return goal.kind == '0' && r.nextInt(3) > 0 ? construct(goal, scope, fuel) : call(goal, scope, fuel);
        }
        switch (r.nextInt(10)) {
            case 0:
                return "?" + make(b, scope, Math.min(half / 2, half)) + make(goal, scope, half) + make(goal, scope, half);
            case 1:
                return r.nextBoolean()
                    ? "L" + make(ty('p', goal, r.nextBoolean() ? i : b), scope, fuel - 2)
                    : "R" + make(ty('p', r.nextBoolean() ? i : b, goal), scope, fuel - 2);
            case 2: case 3:
                return goal.kind == '0' ? construct(goal, scope, fuel) : match(goal, scope, fuel);
            case 4: case 5:
                return call(goal, scope, fuel);
            case 6:
                return match(goal, scope, fuel);
            default:
                break;
        }
        if (goal.kind == 'i') {
            return (r.nextBoolean() ? "+" : "-") + make(i, scope, half) + make(i, scope, half);
        }
        if (goal.kind == 'b') {
            return (r.nextBoolean() ? "<" : "=") + make(i, scope, half) + make(i, scope, half);
        }
        if (goal.kind == 'p') {
            return "P" + make(goal.args.get(0), scope, half) + make(goal.args.get(1), scope, half);
        }
        return goal.args.size() == 1 ? construct(goal, scope, fuel) : null;
    }

    private String construct(Ty goal, List<Ty> scope, int fuel) {
        if (constructors.isEmpty()) {
            return null;
        }
        int k = r.nextInt(constructors.size());
        Sig sig = instance(constructors.get(k), false);
        if (goal.kind - '0' != sig.family) {
            return null;
        }
        return filled("C" + k, sig, sig.last, goal.args.get(0), scope, fuel);
    }

    private String call(Ty goal, List<Ty> scope, int fuel) {
        if (functions.isEmpty()) {
            return null;
        }
        int f = r.nextInt(functions.size());
        Sig sig = instance(functions.get(f), false);
        return filled("G" + f, sig, sig.last, goal, scope, fuel);
    }

    private String filled(String start, Sig sig, Ty own, Ty wanted, List<Ty> scope, int fuel) {
        Map<Character, Ty> s = new HashMap<>();
        if (!unify(s, own, wanted, RIGID)) {
            return null;
        }
        StringBuilder out = new StringBuilder(start);
        int share = sig.parts.isEmpty() ? 0 : Math.min((fuel - 2) / sig.parts.size(), fuel - 1);
        for (Ty part : sig.parts) {
            out.append(make(settled(apply(s, part), s, scope), scope, share));
        }
        return out.toString();
    }

    /** Puts types, mostly those of the scope, in place of the variables that are still free. */
    private Ty settled(Ty t, Map<Character, Ty> s, List<Ty> scope) {
        if (isVariable(t) && t.kind < RIGID) {
            Ty to = r.nextInt(3) > 0 && !scope.isEmpty() ? scope.get(r.nextInt(scope.size())) : randomType("", 1);
            s.put(t.kind, to);
            return to;
        }
        if (t.args.isEmpty()) {
            return t;
        }
        List<Ty> args = new ArrayList<>();
        for (Ty a : t.args) {
            args.add(settled(apply(s, a), s, scope));
        }
        return new Ty(t.kind, args);
    }

    private String match(Ty goal, List<Ty> scope, int fuel) {
        if (fuel < 3) {
            return null;
        }
        int n = scope.isEmpty() ? 0 : r.nextInt(scope.size());
        String matched;
        Ty type;
        if (!scope.isEmpty() && r.nextInt(6) > 0) {
            type = scope.get(n);
            matched = String.valueOf((char) ('a' + Math.min(n, 25)));
        } else {
            type = ty('0', randomType("", 1));
            matched = make(type, scope, fuel / 4);
        }
        if (type.args.size() != 1) {
            return null;
        }
        StringBuilder out = new StringBuilder("M").append(matched).append('{');
        int share = (fuel - 3) / Math.max(1, constructors.size());
        int shift = r.nextInt(4) == 0 && !constructors.isEmpty() ? r.nextInt(constructors.size()) : 0;
        for (int i = 0; i < constructors.size(); i++) {
            int k = (i + shift) % constructors.size();
            Sig sig = instance(constructors.get(k), true);
            Map<Character, Ty> s = new HashMap<>();
            boolean fits = type.kind - '0' == sig.family && unify(s, sig.last, type.args.get(0), Character.MAX_VALUE);
            if (!fits) {
                s.clear();
            }
            if (noise > 0 && r.nextInt(noise) == 0) {
                fits = !fits;
            }
            if (fits) {
                out.append(k).append(caseOf(sig, s, goal, scope, share));
            }
        }
        return out.append('}').toString();
    }

    private String caseOf(Sig sig, Map<Character, Ty> s, Ty goal, List<Ty> scope, int fuel) {
        List<Ty> inner = new ArrayList<>();
        for (Ty t : scope) {
            inner.add(apply(s, t));
        }
        for (Ty t : sig.parts) {
            inner.add(apply(s, t));
        }
        return make(apply(s, goal), inner, fuel);
    }

    String junk(List<Ty> scope, int fuel) {
        String signs = "0123456789TFab+-<=?PLRCGM";
        char c = signs.charAt(fuel <= 0 ? r.nextInt(14) : r.nextInt(signs.length()));
        int parts = "+-<=P".indexOf(c) >= 0 ? 2 : "LR".indexOf(c) >= 0 ? 1 : c == '?' ? 3 : 0;
        StringBuilder out = new StringBuilder().append(c);
        if (c == 'C' || c == 'G') {
            List<Sig> from = c == 'C' ? constructors : functions;
            int k = r.nextInt(from.size() + 1);
            out.append(k);
            parts = k < from.size() ? from.get(k).parts.size() : 0;
        }
        if (c == 'M') {
            out.append(make(ty('i'), scope, 0)).append('{');
            for (int n = r.nextInt(3); n > 0; n--) {
                out.append(r.nextInt(constructors.size() + 1)).append(make(ty('i'), scope, fuel / 3));
            }
            return out.append('}').toString();
        }
        for (int n = 0; n < parts; n++) {
            out.append(make(randomType("", 1), scope, Math.min(fuel / parts, fuel) - 1));
        }
        return out.toString();
    }
}
