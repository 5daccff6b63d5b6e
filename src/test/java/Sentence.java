import java.io.IOException;
import java.nio.file.Files;
import java.nio.file.Path;
import java.util.Arrays;
import java.util.LinkedHashSet;
import java.util.Set;

/** Holds the class to single sentences of the document, and tells which ones no test holds it to. */
final class Sentence {
    private static final Path DOCUMENT = Path.of("../shared/DOC.md");
    private static final Set<String> QUOTED = new LinkedHashSet<>();
    private static int broken = 0;

    private Sentence() {
    }

    /** The words are the document's own; the test asks for what they say. */
    static void holds(String words, Runnable test) {
        Expect.same("the first test of: " + words, QUOTED.add(words), true);
        int asked = Expect.asked();
        int wrong = Expect.wrong();
        try {
            test.run();
        } catch (RuntimeException | StackOverflowError thrown) {
            Expect.sameText("a call threw", thrown.toString(), "");
        }
        Expect.same("something was asked", Expect.asked() > asked, true);
        if (Expect.wrong() > wrong) {
            broken++;
            System.out.println("DOES NOT HOLD: " + words);
        }
    }

    static void tellHowMany() {
        System.out.println(QUOTED.size() - broken + " sentences hold, " + broken + " do not");
    }

    /** Without this, a sentence could be quoted wrongly, or be left out unseen. */
    static void standForAllOfTheDocument() throws IOException {
        if (!Files.exists(DOCUMENT)) {
            System.out.println("the document is not there: the quotes are not compared with it");
            return;
        }
        String text = promised(Files.readString(DOCUMENT));
        boolean[] quoted = new boolean[text.length()];
        for (String words : QUOTED) {
            int at = text.indexOf(words);
            boolean isThereOnce = at >= 0 && text.indexOf(words, at + 1) < 0;
            Expect.same("the document says once: " + words, isThereOnce, true);
            if (isThereOnce) {
                Arrays.fill(quoted, at, at + words.length(), true);
            }
        }
        StringBuilder left = new StringBuilder();
        for (int i = 0; i < quoted.length; i++) {
            left.append(quoted[i] ? ' ' : text.charAt(i));
        }
        Expect.sameText("sentences without a test", left.toString().trim().replaceAll("\\s+", " "), "");
    }

    /** The words of 'What it is', 'Terms' and the promises, without headings, fences and the heads of the methods. */
    private static String promised(String document) {
        String part = between(document, "## What it is", "## The public face") + between(document, "## Terms", "## Not promised");
        return part.replaceAll("(?m)^(##|```).*$", "").replaceAll("(?m)^`[^`]*`: ", "").replaceAll("\\s+", " ");
    }

    private static String between(String document, String from, String to) {
        return document.substring(document.indexOf(from), document.indexOf(to));
    }
}
