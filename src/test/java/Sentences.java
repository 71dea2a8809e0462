import java.io.IOException;
import java.nio.file.Files;
import java.nio.file.Path;
import java.util.LinkedHashMap;
import java.util.Map;
import java.util.regex.Matcher;
import java.util.regex.Pattern;

/**
 * Tests that each belong to a piece of the document's text. At the end every word of the promises and terms has to be
 * in a piece that has a test, so that no sentence is left without one.
 */
final class Sentences {
    private static final Path DOCUMENT = Path.of("../shared/DOC.md");
    private static final Map<String, String> TEXTS = new LinkedHashMap<>();
    private static final Map<String, boolean[]> TESTED = new LinkedHashMap<>();
    private static int tests = 0;

    private Sentences() {
    }

    /** A test of a piece of the text at a place: "Use", "Term 1" .. "Term 4", "Kinds", "Promise 1" .. "Promise 33". */
    static void says(String place, String words, Runnable test) {
        readDocument();
        tests++;
        Due.under(place + ", \"" + words + "\": ");
        int before = Due.asked();
        test.run();
        Due.yes("the test asks something", Due.asked() > before);
        mark(place, words);
        Due.under("");
    }

    static void end() {
        for (Map.Entry<String, String> place : TEXTS.entrySet()) {
            Due.is("words of " + place.getKey() + " without a test: " + untested(place.getKey()),
                untested(place.getKey()).length(), 0);
        }
        System.out.println(tests + " sentences or pieces of them have a test"
            + (TEXTS.isEmpty() ? "; the document is not here to be held against them" : ""));
        Due.end();
    }

    private static void mark(String place, String words) {
        if (TEXTS.isEmpty()) {
            return;
        }
        String text = TEXTS.getOrDefault(place, "");
        int at = text.indexOf(words);
        Due.yes("the document says so", at >= 0);
        for (int i = Math.max(at, 0); at >= 0 && i < at + words.length(); i++) {
            TESTED.get(place)[i] = true;
        }
    }

    private static String untested(String place) {
        StringBuilder left = new StringBuilder();
        String text = TEXTS.get(place);
        for (int i = 0; i < text.length(); i++) {
            if (!TESTED.get(place)[i] && Character.isLetterOrDigit(text.charAt(i))) {
                left.append(text.charAt(i));
            }
        }
        return left.toString();
    }

    private static void readDocument() {
        if (tests > 0 || !Files.isReadable(DOCUMENT)) {
            return;
        }
        try {
            String all = Files.readString(DOCUMENT);
            take(all, "Use", "(An object is used for [^\n]*)");
            for (int i = 1; i <= 4; i++) {
                take(all, "Term " + i, "==== " + i + "\\. ([^\n]*)");
            }
            take(all, "Kinds", "(?s)```text\n(.*?)```");
            Matcher promise = Pattern.compile("## (Promise \\d+): [^\n]*\n+`[^`]*`: ([^\n]*)").matcher(all);
            while (promise.find()) {
                put(promise.group(1), promise.group(2));
            }
            Due.is("places in the document", TEXTS.size(), 39);
        } catch (IOException e) {
            throw new IllegalStateException(e);
        }
    }

    private static void take(String all, String place, String pattern) {
        Matcher found = Pattern.compile(pattern).matcher(all);
        put(place, found.find() ? found.group(1) : "");
    }

    private static void put(String place, String text) {
        TEXTS.put(place, text);
        TESTED.put(place, new boolean[text.length()]);
    }
}
