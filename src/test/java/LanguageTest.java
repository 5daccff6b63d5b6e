import java.io.IOException;
import java.nio.file.Files;
import java.nio.file.Path;
import java.util.regex.Matcher;
import java.util.regex.Pattern;

/** Looks in the source for what shared/LANGUAGE.md rules out and a text can show. */
public final class LanguageTest {
    private static final String[] FORBIDDEN = {
        "\\bthrow\\b", "\\bthrows\\b", "\\btry\\b", "\\bcatch\\b", "\\bsynchronized\\b", "\\bassert\\b", "\\bpackage\\b",
        "::", "\\bprotected\\b", "\\bvar\\b", "\\bThread\\b", "\\bRandom\\b", "currentTime", "nanoTime",
        "\\bequals\\(", "hashCode", "toString", "Exact\\(", "\\bstatic \\{", "\\)\\s*->"
    };
    private static final int MOST_LINES = 60;

    public static void main(String[] args) throws IOException {
        String source = Files.readString(Path.of("src/main/java/EdgeCampaign.java"));
        String code = source.replaceAll("(?s)/\\*.*?\\*/", "").replaceAll("//[^\n]*", "");
        for (String forbidden : FORBIDDEN) {
            Expect.same(forbidden + " stands in the source", Pattern.compile(forbidden).matcher(code).find(), false);
        }
        Matcher imports = Pattern.compile("import ([^;]+);").matcher(code);
        while (imports.find()) {
            Expect.sameText("import", imports.group(1), "java.util.Arrays");
        }
        Expect.same("loops without a bound", Pattern.compile("\\b(while|do)\\b").matcher(code).find(), false);
        methodsAreShort(source.split("\n"));
        Expect.done();
    }

    /** A method ends with the first brace that stands as far in as its own first line. */
    private static void methodsAreShort(String[] lines) {
        for (int i = 0; i < lines.length; i++) {
            boolean begins = lines[i].endsWith(") {") && lines[i].matches("(    |        )[a-zA-Z].*");
            if (begins) {
                String end = lines[i].replaceAll("\\S.*", "") + "}";
                int last = i;
                while (last < lines.length - 1 && !lines[last].equals(end)) {
                    last++;
                }
                Expect.same(lines[i].trim() + " has " + (last - i + 1) + " lines", last - i + 1 > MOST_LINES, false);
            }
        }
    }
}
