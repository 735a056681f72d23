import java.io.IOException;
import java.nio.file.Files;
import java.nio.file.Path;

/** The examples of README.md: what it says of each call is what the call answers. It is run from the project's folder. */
public final class ReadmeTest {
    private final Check c = new Check("ReadmeTest");
    private final String readme;

    private ReadmeTest() throws IOException {
        readme = Files.readString(Path.of("README.md"));
    }

    public static void main(String[] args) throws IOException {
        ReadmeTest t = new ReadmeTest();
        t.bench();
        t.texts();
        t.calls();
        t.c.end();
    }

    private void bench() {
        BranchTypes x = new BranchTypes();
        int number = x.made(0, 0, 0);
        int any = x.made(8, 0, 0);
        int pair = x.made(2, number, any);
        said("x.unites(any, number);", "1", x.unites(any, number), 1);
        said("x.known(pair);", "1", x.known(pair), 1);
        int rigid = x.made(7, 0, 0);
        int family = x.made(3, rigid, 0);
        said("x.unites(rigid, number);", "-6, FIXED", x.unites(rigid, number), BranchTypes.FIXED);
        said("x.opens();", "1", x.opens(), 1);
        said("x.equates(rigid, number);", "1", x.equates(rigid, number), 1);
        int other = x.made(3, number, 0);
        said("x.same(other, family);", "1", x.same(other, family), 1);
        said("x.closes();", "1", x.closes(), 1);
        said("x.same(rigid, number);", "0", x.same(rigid, number), 0);
    }

    private void texts() {
        BranchTypes x = new BranchTypes();
        write(x, "i,:i");
        said("x.constructs(0);", "0: ", x.constructs(0), 0);
        write(x, ":b");
        said("x.constructs(0);", "1: ", x.constructs(0), 1);
        write(x, "d0i,:i");
        said("x.signs();", "0: ", x.signs(), 0);
        write(x, "Ma{0+b1}");
        said("x.bodies(0);", "5 expressions", x.bodies(0), 5);
        write(x, "Ma{0T}");
        said("x.bodies(0);", "-14: ", x.bodies(0), -14);
        said("x.why();", "3: ", x.why(), 3);
        c.due("the old body stays", x.function(0, 2), 5);
        write(x, "G0C07");
        said("x.runs();", "8 steps", x.runs(), 8);
        said("x.valueAt(0);", "'8', the first byte of the value \"8.\"", x.valueAt(0), '8');
        c.due("the value", Check.valueOf(x), "8.");
        said("x.typeAt(0);", "'i'", x.typeAt(0), 'i');
        said("x.begins(3);", "2 constructors", x.begins(3), 2);
        write(x, "G1C15C0C16C0");
        said("x.runs();", "21 steps; the value is \"C111.C0\"", x.runs(), 21);
        c.due("the value of the lists", Check.valueOf(x), "C111.C0");
    }

    /** Each method of the face has its place among the calls that README.md lists. */
    private void calls() {
        for (java.lang.reflect.Method m : BranchTypes.class.getDeclaredMethods()) {
            if (java.lang.reflect.Modifier.isPublic(m.getModifiers())) {
                c.due("README.md lists " + m.getName(), readme.contains("`" + m.getName() + "`") ? 1 : 0, 1);
            }
        }
    }

    private void write(BranchTypes x, String text) {
        c.due("README.md writes " + text, readme.contains("write(x, \"" + text + "\");") ? 1 : 0, 1);
        Check.write(x, text);
    }

    /** A line of README.md has this call with a comment that begins so, and the call's answer is the one that is due. */
    private void said(String call, String comment, int got, int want) {
        c.due(call, got, want);
        boolean stands = false;
        for (String line : readme.split("\n")) {
            int at = line.indexOf("// ");
            stands |= at >= 0 && line.substring(0, at).trim().equals(call) && line.substring(at + 3).startsWith(comment);
        }
        c.due("README.md says of " + call + " // " + comment, stands ? 1 : 0, 1);
    }
}
