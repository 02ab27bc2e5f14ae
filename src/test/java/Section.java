import java.io.IOException;
import java.nio.file.Files;
import java.nio.file.Path;

/**
 * A section of ../shared/DOC.md, sentence by sentence: each is quoted as it stands there and has a
 * test of its own. A quote that isn't the document's is a fault too, and so is a sentence left out.
 */
final class Section {
    private static final Path DOCUMENT = Path.of("../shared/DOC.md");

    /** The test of one sentence. */
    interface Test {
        void run(Check check);
    }

    private final Check check = new Check();
    private final String title;
    private final String text;
    private final StringBuilder quoted = new StringBuilder();

    /** What stands in the document behind one text and before another one. */
    Section(String title, String behind, String before) {
        this.title = title;
        this.text = cutOut(behind, before);
    }

    private static String cutOut(String behind, String before) {
        if (!Files.isReadable(DOCUMENT)) {
            return null;
        }
        try {
            String all = Files.readString(DOCUMENT);
            int begin = all.indexOf(behind);
            int end = begin < 0 ? -1 : all.indexOf(before, begin + behind.length());
            return end < 0 ? "" : plain(all.substring(begin + behind.length(), end));
        } catch (IOException e) {
            return "";
        }
    }

    /** Without fences, line ends and the face's line before a promise. */
    private static String plain(String text) {
        String oneLine = text.replace("```text", "").replace("```", "").replaceAll("\\s+", " ").trim();
        return oneLine.replaceFirst("^`[^`]*\\)[^`]*`: ", "");
    }

    void sentence(String quote, Test test) {
        check.about(title + " (" + quote + ")");
        int before = check.made();
        test.run(check);
        check.same("a test of the sentence", "true", Boolean.toString(check.made() > before));
        quoted.append(quoted.length() == 0 ? "" : " ").append(quote);
    }

    void end() {
        check.about(title);
        if (text == null) {
            System.out.println("there is no " + DOCUMENT + ": its sentences could not be compared");
        } else {
            check.same("the sentences", text, quoted.toString());
        }
        check.end();
    }
}
