import java.nio.file.Files;
import java.nio.file.Path;

/**
 * Goes through the document's words in their order, so that no sentence is left out: each one is quoted, and the
 * answers that are looked at behind it are told with it.
 */
final class Reading {
    private static final Path DOCUMENT = Path.of("..", "shared", "DOC.md");
    /** null: the document isn't here, and only the answers are looked at. */
    private final String text;
    private final Due due = new Due();
    private int at;
    private String sentence = "";

    private Reading(String text, int at) {
        this.text = text;
        this.at = at;
    }

    /** Begins at these words; all blanks and line ends of the document are one blank, and its fences are left out. */
    static Reading from(String words) throws Exception {
        if (!Files.isReadable(DOCUMENT)) {
            System.out.println("no " + DOCUMENT + ": its words aren't looked at");
            return new Reading(null, 0);
        }
        String text = Files.readString(DOCUMENT).replaceAll("```[a-z]*", " ").replaceAll("\\s+", " ").trim();
        Reading reading = new Reading(text, text.indexOf(words));
        reading.due.is("the document has the words: " + words, reading.at < 0 ? 0 : 1, 1);
        return reading;
    }

    /** The document goes on with these words. */
    void says(String words) {
        sentence = words;
        if (text == null) {
            return;
        }
        int found = at < 0 ? -1 : text.indexOf(words, at);
        due.is("the document says: " + words, found, skipBlank());
        if (found >= 0) {
            at = found + words.length();
        }
    }

    /** Nothing was left out up to these words; "" is the document's end. */
    void goesUpTo(String words) {
        if (text != null) {
            int end = words.isEmpty() ? text.length() : text.indexOf(words);
            due.is("the document is read up to: " + words, skipBlank(), end);
        }
        due.end();
    }

    private int skipBlank() {
        return at >= 0 && at < text.length() && text.charAt(at) == ' ' ? at + 1 : at;
    }

    void is(String what, long got, long want) {
        due.is(message(what), got, want);
    }

    void fraction(String what, long above, long below, long dueAbove, long dueBelow) {
        due.fraction(message(what), above, below, dueAbove, dueBelow);
    }

    private String message(String what) {
        return "\"" + sentence + "\" " + what;
    }
}
