import java.io.IOException;
import java.nio.file.Files;
import java.nio.file.Path;
import java.util.Arrays;
import java.util.LinkedHashMap;
import java.util.Map;

/**
 * Checks that stand below the sentence of the document that they hold to. At its end it also looks
 * the sentences up: each must stand in the document, none of the document's may be without a check.
 */
final class Sentences {
    private static final Path DOCUMENT = Path.of("..", "shared", "DOC.md");
    private static final String TERMS = "Terms";
    private static final int PROMISES = 21;

    private final Check check = new Check();
    private final Map<String, Integer> checksOf = new LinkedHashMap<>();
    private String at;

    /** Goes through all of them: one whose board can't be set up is wrong, and stops no other. */
    void each(Runnable... tests) {
        for (Runnable test : tests) {
            try {
                test.run();
            } catch (RuntimeException e) {
                check.same("'" + at + "' was left, as a call before its checks threw", "", "" + e);
            }
        }
    }

    /** What follows holds to a sentence of a promise. */
    void promise(int number, String sentence) {
        begin("Promise " + number, sentence);
    }

    /** What follows holds to a sentence of the document's terms. */
    void terms(String sentence) {
        begin(TERMS, sentence);
    }

    /** What follows holds to a sentence below some other heading. */
    void begin(String heading, String sentence) {
        at = heading + ": " + sentence;
        check.same("'" + at + "' is begun twice", "null", String.valueOf(checksOf.put(at, 0)));
    }

    void due(String what, Object want, Check.Call call) {
        checksOf.merge(at, 1, Integer::sum);
        check.due("'" + at + "' " + what, want, call);
    }

    void none(String what, Check.Call call) {
        due(what, ProbeChoice.NONE, call);
    }

    void outOfBounds(String what, Check.Call call) {
        due(what, "throws.IndexOutOfBoundsException", call);
    }

    void illegal(String what, Check.Call call) {
        due(what, "throws.IllegalArgumentException", call);
    }

    void noState(String what, Check.Call call) {
        due(what, "throws.IllegalStateException", call);
    }

    void end() throws IOException {
        checksOf.forEach((sentence, checks) ->
                check.same("'" + sentence + "' has checks", "true", String.valueOf(checks > 0)));
        if (Files.exists(DOCUMENT)) {
            lookUp(Files.readString(DOCUMENT));
        } else {
            System.out.println("no " + DOCUMENT + ": the sentences were not looked up in it");
        }
        check.end();
    }

    private void lookUp(String document) {
        Map<String, String> sections = sectionsOf(document);
        for (int number = 1; number <= PROMISES; number++) {
            String heading = "Promise " + number;
            lookUpAll(heading, textOfPromise(sections.getOrDefault(heading, "")));
        }
        lookUpAll(TERMS, sections.getOrDefault(TERMS, ""));
    }

    /** The text below each heading; of a promise's heading only what stands before the colon. */
    private static Map<String, String> sectionsOf(String document) {
        Map<String, String> sections = new LinkedHashMap<>();
        for (String section : document.split("(?m)^## ")) {
            int end = section.indexOf('\n');
            if (end >= 0) {
                String heading = section.substring(0, end).replaceFirst(":.*", "");
                sections.put(heading, section.substring(end).trim());
            }
        }
        return sections;
    }

    /** Without the face that each promise begins with. */
    private static String textOfPromise(String section) {
        return section.replaceFirst("^`[^`]*`: ", "");
    }

    private void lookUpAll(String heading, String text) {
        char[] rest = text.toCharArray();
        for (String known : checksOf.keySet()) {
            if (known.startsWith(heading + ": ")) {
                String sentence = known.substring(heading.length() + 2);
                int from = text.indexOf(sentence);
                check.same("'" + known + "' stands in the document", "true", "" + (from >= 0));
                if (from >= 0) {
                    Arrays.fill(rest, from, from + sentence.length(), ' ');
                }
            }
        }
        check.same(heading + " has sentences without a check:", "", new String(rest).trim());
    }
}
