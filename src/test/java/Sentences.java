import java.io.IOException;
import java.nio.charset.StandardCharsets;
import java.nio.file.Files;
import java.nio.file.Path;
import java.util.ArrayList;
import java.util.LinkedHashSet;
import java.util.List;
import java.util.Set;
import java.util.regex.Matcher;
import java.util.regex.Pattern;

/** The sentences of the document, and which of them were tested: what stands between two full stops or semicolons. */
final class Sentences {
    static final int TERMS = 0;

    private static final Pattern HEADING = Pattern.compile("Terms|Promise (\\d+):.*");
    private static final Set<String> ALL = read();
    private static final Set<String> UNTESTED = new LinkedHashSet<>(ALL);
    private static int promise = TERMS;

    private Sentences() {
    }

    /** The sentences that follow are those of a promise, or of the terms. */
    static void of(int number) {
        promise = number;
    }

    /** Runs the tests that a sentence has for its own. */
    static void test(String words, Runnable... tests) {
        String sentence = known(words);
        int wrong = Due.wrong();
        for (Runnable test : tests) {
            test.run();
        }
        if (Due.wrong() != wrong) {
            System.out.println("  that breaks: " + sentence);
        }
    }

    /** Sentences that tell no more than what the words mean. */
    static void nameNoBoundary(String... sentences) {
        for (String words : sentences) {
            known(words);
        }
    }

    static void allAreTested() {
        for (String sentence : UNTESTED) {
            Due.isTrue("tested: " + sentence, false);
        }
    }

    private static String known(String words) {
        String sentence = promise + ": " + words;
        Due.isTrue("a sentence of the document: " + sentence, ALL.contains(sentence));
        UNTESTED.remove(sentence);
        return sentence;
    }

    private static Set<String> read() {
        Set<String> sentences = new LinkedHashSet<>();
        for (String section : document().split("(?m)^## ")) {
            int end = section.indexOf('\n');
            Matcher heading = HEADING.matcher(end < 0 ? section : section.substring(0, end));
            if (heading.matches()) {
                int number = heading.group(1) == null ? TERMS : Integer.parseInt(heading.group(1));
                for (String words : sentencesIn(section.substring(end))) {
                    sentences.add(number + ": " + words);
                }
            }
        }
        return sentences;
    }

    private static List<String> sentencesIn(String section) {
        List<String> sentences = new ArrayList<>();
        for (String paragraph : section.replaceAll("(?m)^```.*$", "").split("\n\\s*\n|\n(?=- )|\n(?=  \\w)")) {
            for (String part : paragraph.strip().replaceAll("\\s+", " ").split("(?<=[.;]) ")) {
                String words = part.replaceAll("^- |[.;]$", "");
                if (!words.isEmpty()) {
                    sentences.add(words);
                }
            }
        }
        return sentences;
    }

    private static String document() {
        try {
            return Files.readString(Path.of("..", "shared", "DOC.md"), StandardCharsets.UTF_8);
        } catch (IOException e) {
            Due.isTrue("../shared/DOC.md is read", false);
            return "";
        }
    }
}
