import java.io.IOException;
import java.lang.reflect.Field;
import java.lang.reflect.Modifier;
import java.nio.file.Files;
import java.nio.file.Path;
import java.util.Set;
import java.util.regex.Matcher;
import java.util.regex.Pattern;

/**
 * What can be told of the rules of LANGUAGE.md from the words of the source alone. It is run from
 * the project's folder.
 */
public final class RulesTest {
    private static final Check CHECK = new Check("RulesTest");
    private static final String[] WORDS_RULED_OUT = {"throw", "throws", "try", "catch",
        "synchronized", "assert", "package", "protected", "import", "native", "var", "Object",
        "hashCode", "random", "currentTimeMillis", "nanoTime", "Thread", "File"};
    private static final Set<String> LIBRARY = Set.of("Math.abs", "Math.min", "Math.max",
            "Integer.bitCount", "Long.bitCount", "System.arraycopy");
    private static final Set<String> STATIC_TYPES = Set.of("int", "long", "boolean", "char",
            "java.lang.String", "[I", "[J", "[C", "[B");
    private static final Pattern METHOD = Pattern.compile(
            "^( +)(?:(?:public|private|static|final) )*[\\w\\[\\]]+(?: \\w+)?\\(([^)]*)\\) \\{$");

    public static void main(String[] args) throws IOException {
        String source = Files.readString(Path.of("src/main/java/SealPrints.java"));
        String bare = source.replaceAll("(?s)/\\*.*?\\*/", "").replaceAll("//[^\n]*", "")
                .replaceAll("\"[^\"\n]*\"", "\"\"");
        for (String word : WORDS_RULED_OUT) {
            CHECK.holds("rules 1 to 6: no " + word,
                    !Pattern.compile("\\b" + word + "\\b").matcher(bare).find());
        }
        CHECK.holds("rule 2: no lambda", !bare.contains("->"));
        CHECK.holds("rule 2: no method reference", !bare.contains("::"));
        CHECK.holds("rule 4: no function that ends in Exact", !bare.contains("Exact("));
        CHECK.holds("rule 5: no static block", !Pattern.compile("static \\{").matcher(bare).find());
        CHECK.holds("rule 10: no text is joined by +",
                !Pattern.compile("\"\" \\+|\\+ \"\"").matcher(bare).find());
        CHECK.holds("rule 11: some twelve classes", count(bare, "\\bclass \\w+") <= 12);
        CHECK.holds("one public class", count(bare, "public (final )?class") == 1);
        CHECK.holds("texts hold plain signs alone", source.chars().allMatch(c -> c < 128));
        methodsStayShort(source);
        libraryIsListed(bare);
        fieldsAreFewAndPlain(SealPrints.class);
        for (Class<?> inside : SealPrints.class.getDeclaredClasses()) {
            fieldsAreFewAndPlain(inside);
        }
        CHECK.end();
    }

    private static void libraryIsListed(String bare) {
        Matcher m = Pattern.compile("\\b[A-Z][a-z]\\w*\\.\\w+").matcher(bare);
        int found = 0;
        while (m.find()) {
            found++;
            CHECK.holds("rule 4: " + m.group() + " is listed", LIBRARY.contains(m.group()));
        }
        CHECK.holds("the library is used", found > 0);
    }

    private static void fieldsAreFewAndPlain(Class<?> it) {
        int own = 0;
        for (Field f : it.getDeclaredFields()) {
            if (Modifier.isStatic(f.getModifiers())) {
                CHECK.holds("rule 5: final: " + f, Modifier.isFinal(f.getModifiers()));
                CHECK.holds("rule 5: its type: " + f, STATIC_TYPES.contains(f.getType().getName()));
            } else {
                own++;
            }
        }
        CHECK.holds("rule 11: some twenty fields: " + it, own <= 20);
    }

    private static int count(String text, String pattern) {
        return (int) Pattern.compile(pattern).matcher(text).results().count();
    }

    private static void methodsStayShort(String source) {
        String[] lines = source.split("\n");
        int methods = 0;
        for (int i = 0; i < lines.length; i++) {
            Matcher m = METHOD.matcher(lines[i]);
            if (!m.matches()) {
                continue;
            }
            methods++;
            int end = i;
            while (!lines[end].equals(m.group(1) + "}")) {
                end++;
            }
            CHECK.holds("rule 11: some sixty lines: " + lines[i], end - i < 60);
            CHECK.holds("rule 11: seven parameters: " + lines[i],
                    m.group(2).split(",").length <= 7);
        }
        CHECK.holds("the methods were found", methods > 44);
    }
}
