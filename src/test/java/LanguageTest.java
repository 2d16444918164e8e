import java.io.IOException;
import java.nio.file.Files;
import java.nio.file.Path;
import java.util.List;
import java.util.Set;
import java.util.TreeSet;
import java.util.regex.Matcher;
import java.util.regex.Pattern;

/**
 * The words of the source, as rules 1 to 13 of ../shared/LANGUAGE.md want them, where words can tell. What the compiled
 * class tells is looked at by FaceTest.
 */
public final class LanguageTest {
    private static final Path SOURCE = Path.of("src", "main", "java", "QuarrelBook.java");
    private static final int LINES_OF_A_METHOD = 60, MOST_CLASSES = 12;

    // The library of rules 3 and 4.
    private static final Set<String> LIBRARY = Set.of("String", "StringBuilder", "Integer", "Long", "Math", "System",
        "Arrays", "ArrayList", "List", "Iterator", "Iterable", "Comparable", "Override");
    private static final Pattern CLASS = Pattern.compile("\\b(?:class|interface|enum|record) (\\w+)");
    private static final Pattern TYPE = Pattern.compile("\\b[A-Z][a-z]\\w*");
    private static final Pattern METHOD =
        Pattern.compile("( +)(?:(?:public|private|static|final) )*(?:([\\w\\[\\]]+) )?(\\w+)\\(([^()]*)\\) \\{");

    private final String source;
    private final String code;
    private final List<String> lines;

    private LanguageTest(String source) {
        this.source = source;
        code = withoutCommentsAndTexts(source);
        lines = List.of(code.split("\n", -1));
    }

    public static void main(String[] args) throws IOException {
        LanguageTest test = new LanguageTest(Files.readString(SOURCE));
        test.oneFileWithoutAPackage();
        test.wordsThatAreNotThere();
        test.libraryAsListed();
        test.methodsAreShortAndMakeNothing();
        Check.finish();
    }

    /** Comments are blanks, but for their line ends; texts and signs are empty. */
    private static String withoutCommentsAndTexts(String source) {
        Pattern away = Pattern.compile("/\\*.*?\\*/|//[^\n]*|\"(?:\\\\.|[^\"\\\\\n])*\"|'(?:\\\\.|[^'\\\\\n])+'",
            Pattern.DOTALL);
        return away.matcher(source).replaceAll(found -> found.group().replaceAll("[^\n]", " "));
    }

    private void oneFileWithoutAPackage() {
        Check.about("one file without a package line; rule 11: at most some twelve classes");
        Check.holds("no package line", !code.contains("package "));
        Check.holds("one public class", code.split("public final class ", -1).length == 2);
        Check.holds("at most twelve classes: " + classes(), classes().size() <= MOST_CLASSES);
    }

    private Set<String> classes() {
        Set<String> found = new TreeSet<>();
        Matcher matcher = CLASS.matcher(code);
        while (matcher.find()) found.add(matcher.group(1));
        return found;
    }

    private void wordsThatAreNotThere() {
        Check.about("rules 2, 6 and 13: no throw, try, catch, synchronized, assert, lambda, method reference");
        String[] never = {"\\bthrows?\\b", "\\btry\\b", "\\bcatch\\b", "\\bfinally\\b", "\\bsynchronized\\b",
            "\\bassert\\b", "->", "::", "Exact\\b", "\\bvar\\b", "\\bstatic\\s*\\{", "\\bequals\\(", "\\bhashCode\\b",
            "\\btoString\\b", "\\bnative\\b", "\\bvolatile\\b", "\\btransient\\b", "\\bprotected\\b"};
        for (String word : never) {
            Matcher matcher = Pattern.compile(word).matcher(code);
            Check.holds("not there: " + word, !matcher.find());
        }
        Check.holds("signs are 1 to 127", source.chars().allMatch(sign -> sign >= 1 && sign <= 127));
    }

    private void libraryAsListed() {
        Check.about("rules 3 and 4: only what stands here");
        Set<String> own = classes();
        Matcher types = TYPE.matcher(code);
        while (types.find()) {
            String name = types.group();
            Check.holds("of the class or of the library: " + name, own.contains(name) || LIBRARY.contains(name));
        }
        for (String line : lines) {
            if (!line.startsWith("import ")) continue;
            Check.holds(line, line.matches("import java\\.util\\.(Arrays|ArrayList|List|Iterator);"));
        }
        Matcher system = Pattern.compile("\\bSystem\\.(\\w+)").matcher(code);
        while (system.find()) Check.holds("System." + system.group(1), system.group(1).equals("arraycopy"));
        Matcher arrays = Pattern.compile("\\bArrays\\.(\\w+)").matcher(code);
        while (arrays.find()) Check.holds("Arrays." + arrays.group(1), arrays.group(1).matches("copyOf(Range)?|fill"));
    }

    private void methodsAreShortAndMakeNothing() {
        Check.about("rules 11 and 12: short methods with at most seven parameters; objects made in constructors alone");
        int found = 0;
        for (int first = 0; first < lines.size(); first++) {
            Matcher method = METHOD.matcher(lines.get(first));
            if (!method.matches() || "new".equals(method.group(2)) || "else".equals(method.group(2))) continue;
            if (Set.of("if", "for", "while", "switch").contains(method.group(3))) continue;
            found++;
            int last = lines.subList(first, lines.size()).indexOf(method.group(1) + "}") + first;
            String name = method.group(3);
            Check.holds(name + " has at most " + LINES_OF_A_METHOD + " lines", last - first < LINES_OF_A_METHOD);
            Check.holds(name + " takes at most seven", method.group(4).split(",").length <= 7);
            boolean constructor = method.group(2) == null || method.group(2).equals("public");
            String body = String.join("\n", lines.subList(first, last + 1));
            Check.holds(name + " makes no object", constructor || !body.matches("(?s).*\\bnew\\b.*"));
        }
        Check.holds("methods were found: " + found, found > 100);
    }
}
