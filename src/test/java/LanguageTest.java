import java.io.IOException;
import java.nio.file.Files;
import java.nio.file.Path;
import java.util.Set;
import java.util.TreeSet;
import java.util.regex.Matcher;
import java.util.regex.Pattern;

/** The source keeps to LANGUAGE.md, as far as a look at its text can tell; each method is for some of its rules. */
public final class LanguageTest {
    private static final Due due = new Due("LanguageTest");
    private static String whole;
    /** Without comments, texts and signs. */
    private static String code;

    private static int found(String regex) {
        Matcher m = Pattern.compile(regex).matcher(code);
        int count = 0;
        while (m.find()) {
            count++;
        }
        return count;
    }

    private static void none(String rule, String regex) {
        due.is(rule + ": " + regex, found(regex), 0);
    }

    private static String withoutTexts(String source) {
        return source.replaceAll("(?s)/\\*.*?\\*/", " ").replaceAll("//[^\n]*", " ")
                .replaceAll("\"(\\\\.|[^\"\\\\])*\"", "\"\"").replaceAll("'(\\\\.|[^'\\\\])'", "' '");
    }

    private static Set<String> all(String regex, int group) {
        Set<String> names = new TreeSet<>();
        Matcher m = Pattern.compile(regex).matcher(code);
        while (m.find()) {
            names.add(m.group(group));
        }
        return names;
    }

    private static void oneFileOneClass() {
        none("no package", "\\bpackage\\b");
        due.is("one public class", found("\\bpublic final class GoatAbacus\\b"), 1);
        due.is("one public class", found("\\bpublic [a-z ]*(class|interface|enum|record)\\b"), 1);
        due.is("rule 2: classes inside are static",
                found("\\bclass \\w+"), 1 + found("\\bprivate static final class \\w+"));
        due.is("rule 11: some twelve classes", found("\\bclass \\w+") <= 12, true);
        none("rule 2", "->|::");
        due.is("signs of the source are 1 to 127", whole.chars().allMatch(c -> c < 128), true);
    }

    private static void libraryAndTypes() {
        due.is("imports", all("\\bimport ([\\w.*]+);", 1).toString().equals(
                "[java.util.Arrays, java.util.NoSuchElementException]"), true);
        none("rule 3: texts, objects, maps", "\\b(Object|Map|Set|Collections|Optional|Stream|BigInteger|Long\\.valueOf)\\b");
        none("rule 3: no doubles are used", "\\b(double|float)\\b");
        none("rule 4: no Exact", "Exact\\b");
        none("rule 13", "\\b(System\\.(?!arraycopy)|Thread|Random|Runtime|Files?)\\b");
        due.is("rule 4: Arrays", Set.of("copyOf", "copyOfRange", "fill").containsAll(all("\\bArrays\\.(\\w+)", 1)), true);
        due.is("rule 4: Integer and Math", Set.of("MAX_VALUE", "bitCount", "numberOfLeadingZeros", "max", "min", "abs",
                "floorMod").containsAll(all("\\b(Integer|Long|Math)\\.(\\w+)", 2)), true);
    }

    private static void exceptionsAndState() {
        none("rule 6", "\\b(try|catch|finally|synchronized|assert)\\b");
        due.is("rule 6: throws with a written text", found("\\bthrow "), found("\\bthrow new NoSuchElementException\\(\"\"\\);"));
        none("rule 6", "\\b(equals|hashCode|toString|getMessage)\\b");
        due.is("rule 5: static fields are final", found("\\bstatic (int|long|boolean|char|String)(\\[\\])? \\w+ ="), 0);
        none("rule 5: no static block", "\\bstatic \\{");
        none("rule 3: arrays of two dimensions are not used", "\\]\\s*\\[");
    }

    /** Rule 11: at most seven parameters, some sixty lines, some twenty fields. */
    private static void sizes() {
        Matcher m = Pattern.compile("(?m)^( {4}| {8})(?=\\S)[\\w\\[\\] ]+?\\b(\\w+)\\(([^()]*)\\)[\\w ]* \\{$").matcher(code);
        int methods = 0;
        while (m.find()) {
            if (m.group(1).length() == 8 && m.group(0).trim().matches("(if|for|while|switch|else|do)\\b.*")) {
                continue;
            }
            methods++;
            int end = code.indexOf("\n" + m.group(1) + "}", m.end());
            long lines = code.substring(m.start(), end).lines().count() + 1;
            due.is(m.group(2) + " is short", lines <= 60, true);
            int parameters = m.group(3).isBlank() ? 0 : m.group(3).split(",").length;
            due.is(m.group(2) + " has few parameters", parameters <= 7, true);
        }
        due.is("methods were found", methods > 130, true);
        for (String part : code.split("\\bclass ")) {
            Matcher field = Pattern.compile("(?m)^ +(private |final )*[A-Za-z]+(\\[\\])? \\w+( = [^;]+)?;$").matcher(part);
            int fields = 0;
            while (field.find()) {
                int depth = field.group().length() - field.group().stripLeading().length();
                fields += depth == (part.startsWith("GoatAbacus ") ? 4 : 8) && !field.group().contains("return") ? 1 : 0;
            }
            due.is("fields of " + part.lines().findFirst().orElse(""), fields <= 20, true);
        }
    }

    public static void main(String[] args) throws IOException {
        whole = Files.readString(Path.of("src/main/java/GoatAbacus.java"));
        code = withoutTexts(whole);
        oneFileOneClass();
        libraryAndTypes();
        exceptionsAndState();
        sizes();
        due.close();
    }
}
