import java.io.IOException;
import java.nio.file.Files;
import java.nio.file.Path;
import java.util.ArrayList;
import java.util.HashSet;
import java.util.List;
import java.util.Set;

/** Tests that quote the document: each quote is looked up in it, and no sentence may stay unquoted. */
abstract class Sentences extends Checks {
    private static final Path DOCUMENT = Path.of("../shared/DOC.md");

    /** A sentence, and the paragraph ("Entries") or the promise ("Promise 2") that it stands in. */
    private record Sentence(String part, String words) {
    }

    private static final List<Sentence> document = new ArrayList<>();
    private static final Set<Sentence> quoted = new HashSet<>();
    private static String part = "";

    /** Reads the sentences from the first to the last, without the public face, which is no sentence. */
    static void readDocument() throws IOException {
        String text = Files.readString(DOCUMENT);
        text = text.substring(text.indexOf("## What it is"), text.indexOf("## The public face"))
            + text.substring(text.indexOf("## Description"));
        for (String paragraph : text.split("\\n\\s*\\n")) {
            boolean isSignature = paragraph.matches("`LearnedIndex\\(\\)`|`\\w+ \\w+\\(.*`");
            if (paragraph.startsWith("## ")) {
                part = paragraph.substring(3).replaceFirst(":.*", "").strip();
            } else if (!paragraph.startsWith("----") && !isSignature) {
                for (String item : paragraph.split("\\n(?=- )")) {
                    readItem(item.replaceAll("\\s+", " ").strip());
                }
            }
        }
    }

    private static void readItem(String item) {
        String rest = item;
        if (!part.startsWith("Promise ") && item.matches("[A-Z][a-z]+\\. .*")) {
            part = item.substring(0, item.indexOf('.'));
            rest = item.substring(item.indexOf('.') + 2);
        }
        for (String words : rest.split("(?<=\\.) (?=[A-Z])")) {
            document.add(new Sentence(part, words));
        }
    }

    /** Begins the quotes from one part of the document. */
    static void in(String name) {
        part = name;
    }

    /** A test of the sentences with these words. */
    static void says(Runnable test, String... quotes) {
        subject = part + ", \"" + quotes[0] + "\"";
        for (String words : quotes) {
            quote(words);
        }
        run(test);
    }

    /** Words that name nothing that an answer could break, and why. */
    static void asksNothing(String words, String why) {
        subject = part + ", \"" + words + "\" asks nothing: " + why;
        quote(words);
    }

    private static void quote(String words) {
        boolean isThere = false;
        for (Sentence sentence : document) {
            if (sentence.part().equals(part) && sentence.words().contains(words)) {
                quoted.add(sentence);
                isThere = true;
            }
        }
        if (!isThere) {
            fault("the document does not say this");
        }
    }

    /** Ends the tests of the promises, or of all else: each of their sentences must have been quoted. */
    static void endSentences(boolean isOfPromises) {
        subject = "the document";
        for (Sentence sentence : document) {
            boolean isOurs = sentence.part().startsWith("Promise ") == isOfPromises;
            if (isOurs && !quoted.contains(sentence)) {
                fault("no test quotes \"" + sentence.words() + "\" of " + sentence.part());
            }
        }
        end();
    }
}
