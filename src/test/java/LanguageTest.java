import java.io.IOException;
import java.nio.file.Files;
import java.nio.file.Path;
import java.util.regex.Matcher;
import java.util.regex.Pattern;

/** The rules of LANGUAGE.md that can be seen in the source by plain patterns. It is run from the project's folder. */
public final class LanguageTest {
    private static final String[] FORBIDDEN = {"\\bthrow\\b", "\\bthrows\\b", "\\btry\\b", "\\bcatch\\b", "\\bfinally\\b",
        "\\bsynchronized\\b", "\\bassert\\b", "->", "::", "\\bimport\\b", "\\bpackage\\b", "\\bstatic \\{", "\\bvolatile\\b", "\\bnative\\b",
        "Exact\\(", "\\bSystem\\b", "\\bThread\\b", "\\bRandom\\b", "hashCode", "toString", "\\bObject\\b", "while \\(true\\)", "for \\(;;\\)",
        "\\bprotected\\b", "\" \\+", "\\+ \"", "\\?\\?"};

    public static void main(String[] args) throws IOException {
        Check c = new Check("LanguageTest");
        String source = Files.readString(Path.of("src/main/java/BranchTypes.java"));
        String bare = source.replaceAll("(?s)/\\*.*?\\*/", "").replaceAll("//[^\n]*", "");
        for (String pattern : FORBIDDEN) {
            Matcher m = Pattern.compile(pattern).matcher(bare);
            c.due("no " + pattern, m.find() ? 1 : 0, 0);
        }
        Matcher classes = Pattern.compile("\\b(class|record|enum|interface) [A-Z]").matcher(bare);
        int count = 0;
        while (classes.find()) {
            count++;
        }
        c.due("at most twelve classes", count <= 12 ? 1 : 0, 1);
        methods(c, bare);
        c.due("only plain signs", source.chars().allMatch(s -> s == '\n' || (s >= 32 && s < 127)) ? 1 : 0, 1);
        c.end();
    }

    /** Methods have at most sixty lines and seven parameters, and those inside don't bear the names of the face. */
    private static void methods(Check c, String bare) {
        Pattern head = Pattern.compile("(?m)^( +)(?:public |private )?(?:static )?(?:final )?[\\w\\[\\]]+ (\\w+)\\(([^)]*)\\) \\{$");
        Matcher m = head.matcher(bare);
        java.util.Set<String> face = new java.util.HashSet<>();
        int found = 0;
        while (m.find()) {
            found++;
            String end = "\n" + m.group(1) + "}\n";
            String body = bare.substring(m.start(), bare.indexOf(end, m.start()));
            c.due("lines of " + m.group(2), body.split("\n").length <= 60 ? 1 : 0, 1);
            c.due("parameters of " + m.group(2), m.group(3).split(",").length <= 7 ? 1 : 0, 1);
            if (m.group().contains("public ") && !m.group(2).equals("BranchTypes")) {
                face.add(m.group(2));
            } else {
                c.due("no name of the face: " + m.group(2), face.contains(m.group(2)) ? 1 : 0, 0);
            }
        }
        c.due("the face was seen", face.size(), 29);
        c.due("methods were seen", found > 60 ? 1 : 0, 1);
    }
}
