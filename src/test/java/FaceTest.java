import java.lang.reflect.Constructor;
import java.lang.reflect.Field;
import java.lang.reflect.Method;
import java.lang.reflect.Modifier;
import java.util.Set;
import java.util.TreeSet;

/** The public face is the document's and no more (rule 1 of LANGUAGE.md), and the constants have their values. */
public final class FaceTest {
    private static final String[] METHODS = {"made III", "opens ", "closes ", "equates II", "unites II", "would II", "same II", "shape II",
        "classes ", "measure I", "reach I", "known I", "comes II", "bench I", "begins I", "type I", "clear ", "constructs I", "signs ",
        "bodies I", "runs ", "why ", "constructor II", "function II", "ran I", "typeAt I", "valueAt I", "told I", "digest "};

    public static void main(String[] args) {
        Check c = new Check("FaceTest");
        int[] constants = {BranchTypes.NONE, BranchTypes.BAD, BranchTypes.NO, BranchTypes.FULL, BranchTypes.CLASH, BranchTypes.FIXED,
            BranchTypes.OPEN, BranchTypes.SPENT, BranchTypes.DEEP};
        for (int n = 0; n < constants.length; n++) {
            c.due("constant " + n, constants[n], -1 - n);
        }
        Set<String> due = new TreeSet<>();
        for (String m : METHODS) {
            due.add((m.equals("digest ") ? "long " : "int ") + m);
        }
        Set<String> found = new TreeSet<>();
        for (Method m : BranchTypes.class.getDeclaredMethods()) {
            StringBuilder signature = new StringBuilder(m.getReturnType() + " " + m.getName() + " ");
            for (Class<?> p : m.getParameterTypes()) {
                signature.append(p == int.class ? "I" : "?");
            }
            if (!Modifier.isPrivate(m.getModifiers())) {
                found.add(signature.toString());
                c.due("public " + m, m.getModifiers(), Modifier.PUBLIC);
            }
        }
        c.due("methods", found.toString(), due.toString());
        fields(c);
        Constructor<?>[] constructors = BranchTypes.class.getDeclaredConstructors();
        c.due("one constructor", constructors.length * 10 + constructors[0].getParameterCount(), 10);
        c.due("a final class", BranchTypes.class.getModifiers(), Modifier.PUBLIC | Modifier.FINAL);
        for (Class<?> inner : BranchTypes.class.getDeclaredClasses()) {
            c.due("static " + inner, inner.getModifiers() & (Modifier.STATIC | Modifier.PUBLIC | Modifier.PROTECTED), Modifier.STATIC);
        }
        c.end();
    }

    private static void fields(Check c) {
        int open = 0;
        for (Field f : BranchTypes.class.getDeclaredFields()) {
            int m = f.getModifiers();
            if (Modifier.isPublic(m)) {
                open++;
                c.due("constant " + f, m, Modifier.PUBLIC | Modifier.STATIC | Modifier.FINAL);
            } else {
                c.due("private " + f, Modifier.isPrivate(m) ? 1 : 0, 1);
                c.due("no static state " + f, !Modifier.isStatic(m) || Modifier.isFinal(m) ? 1 : 0, 1);
            }
        }
        c.due("constants", open, 9);
    }
}
