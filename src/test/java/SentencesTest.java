import java.io.IOException;
import java.nio.file.Files;
import java.nio.file.Path;
import java.util.EnumSet;

/** The sentences that the tests of boundaries are about are the document's own, and all of its promises'. */
public final class SentencesTest {
    private static final Path DOCUMENT = Path.of("..", "shared", "DOC.md");

    public static void main(String[] args) throws IOException {
        Expect expect = new Expect();
        for (String section : Files.readString(DOCUMENT).split("(?m)^## ")) {
            int end = section.indexOf('\n');
            if (end < 0) {
                continue;
            }
            String name = section.substring(0, end).split(":")[0].strip();
            compare(expect, name, section.substring(end));
        }
        expect.end(EnumSet.allOf(Sentence.class));
    }

    private static void compare(Expect expect, String section, String text) {
        // The calls themselves stand between ` and ` and are the face's, not a sentence.
        String rest = text.replaceAll("`[^`]*`:", " ").replaceAll("\\s+", " ");
        for (Sentence sentence : Sentence.values()) {
            if (sentence.section.equals(section)) {
                expect.about(sentence);
                expect.yes("the document says so", rest.contains(sentence.words));
                rest = rest.replace(sentence.words, " ");
            }
        }
        if (section.equals("Terms") || section.startsWith("Promise")) {
            expect.about(null);
            expect.text("what " + section + " says beside that", "", rest.strip());
        }
    }
}
