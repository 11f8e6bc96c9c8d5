import java.nio.file.Files;
import java.nio.file.Path;
import java.util.List;
import java.util.regex.Matcher;
import java.util.regex.Pattern;

/** Rules of LANGUAGE.md that can be read off the source of the class; FaceTest looks at its face (rule 1). */
public final class RulesTest {
    private static final Checks C = new Checks("RulesTest");
    /** Words that rules 2, 4, 6, 12 and 13 leave out; the class has no need of any try. */
    private static final String[] LEFT_OUT = {"\\btry\\b", "\\bcatch\\b", "\\bfinally\\b", "\\bsynchronized\\b",
        "\\bassert\\b", "->", "::", "Exact\\b", "\\bLambda", "\\bequals\\b", "\\bhashCode\\b", "\\bgetMessage\\b",
        "\\bprintln\\b", "\\bRandom\\b", "\\bThread\\b", "\\bnanoTime\\b", "\\bcurrentTimeMillis\\b", "\\bvalues\\(\\)",
        "^package ", "\\bprotected\\b", "\\bvar\\b", "\\bnative\\b", "\\bdouble\\b", "\\bfloat\\b"};
    private static final Pattern METHOD = Pattern.compile("^ {4,8}(public |private )?(static )?[\\w\\[\\]]+ \\w+\\(.*\\{$");

    public static void main(String[] args) throws Exception {
        List<String> lines = Files.readAllLines(Path.of("src/main/java/ThroughWindow.java"));
        C.part("rules");
        for (int n = 0; n < lines.size(); n++) {
            String code = lines.get(n).replaceFirst("^\\s*(/?\\*.*|//.*)$", "");
            for (String word : LEFT_OUT) {
                C.no("line " + (n + 1) + " has " + word, Pattern.compile(word).matcher(code).find());
            }
            if (code.startsWith("import")) {
                C.due("import", code, "import java.util.NoSuchElementException;");
            }
            if (code.contains("System.")) {
                C.yes("line " + (n + 1) + ": System.arraycopy alone", code.contains("System.arraycopy("));
            }
            if (code.contains("throw new")) {
                C.due("the one throw", code.strip(), "throw new NoSuchElementException();");
            }
            if (code.matches(".*\\bstatic\\b.*=.*;")) {
                C.yes("line " + (n + 1) + ": a static field is final", code.contains("static final"));
            }
            if (METHOD.matcher(code).matches()) {
                checkMethod(lines, n);
            }
        }
        C.end();
    }

    /** Rule 11: at most seven parameters, some sixty lines. */
    private static void checkMethod(List<String> lines, int start) {
        String head = lines.get(start);
        String indent = head.substring(0, head.length() - head.stripLeading().length());
        int end = start;
        while (end < lines.size() && !lines.get(end).equals(indent + "}")) {
            end++;
        }
        C.yes("line " + (start + 1) + ": a method of " + (end - start + 1) + " lines", end - start < 60);
        Matcher commas = Pattern.compile(",").matcher(head.substring(head.indexOf('(')));
        C.yes("line " + (start + 1) + ": parameters", commas.results().count() < 7);
    }
}
