import java.nio.charset.StandardCharsets;
import java.nio.file.Files;
import java.nio.file.Path;

/** A part of the document as it is gone through: each sentence is quoted ahead of its checks, and none is left out. */
final class Document {
    private final String text;
    private int at;

    private Document(String text) {
        this.text = text;
    }

    /** From one heading on, up to another one. */
    static Document part(String from, String to) throws Exception {
        String all = Files.readString(Path.of("../shared/DOC.md"), StandardCharsets.UTF_8);
        int begin = all.indexOf(from);
        int end = all.indexOf(to);
        Check.that("the document has " + from + " and " + to, begin >= 0 && end > begin);
        String part = all.substring(begin, end).replaceAll("(?m)^```.*$", "");
        return new Document(part.replaceAll("\\s+", " ").trim());
    }

    void says(String sentence) {
        if (text.startsWith(sentence, at)) {
            Check.that(sentence, true);
            at += sentence.length();
            at += text.startsWith(" ", at) ? 1 : 0;
        } else {
            String found = text.substring(at, Math.min(text.length(), at + sentence.length()));
            Check.same("the document, behind " + at + " signs,", found, sentence);
        }
    }

    void ends() {
        Check.same("the end of this part of the document", text.substring(at), "");
    }
}
