import java.io.IOException;
import java.nio.charset.StandardCharsets;
import java.nio.file.Files;
import java.nio.file.Path;
import java.util.ArrayList;
import java.util.List;
import java.util.Set;
import java.util.regex.Matcher;
import java.util.regex.Pattern;

/** The document's sentences, each with the number of its promise: so a boundary case without a test is seen. */
final class DocumentWords {
    private static final Pattern PROMISE = Pattern.compile("## Promise (\\d+): .*");
    private static final Pattern ITEM = Pattern.compile("- `\\w+`: (.*)");

    /** Sentences that name no case in which a call is at a bound: what they say is in the tests of the promises. */
    private static final Set<String> PLAIN = Set.of(
        "Ropes of signs: each is a text that is changed by pieces laid behind it, put in at places, cut out and put in the "
            + "place of others; of words, signs, numbers, truths, rows of signs and parts of them, other ropes and parts of "
            + "them, also of itself; one asks what stands where, where words begin, how two stand to each other, and turns "
            + "them",
        "Whole numbers", "SIGNS are told by codes",
        "A truth stands as \"true\" or \"false\"",
        "The constructor and the methods follow, a promise each: the signature, then what it does",
        "a ROPE", "the WORD", "a WORD", "which one", "for how many", "its code", "the number", "its first number",
        "its second number", "the truth", "the first place of the PART", "the place behind it", "the PLACE",
        "the first place", "its place", "the place", "the length", "a place", "the place behind the last one",
        "Returns how long its TEXT is then", "Returns that", "Returns d",
        "A WORD is laid behind", "A SIGN is laid behind", "A SIGN is laid behind by its number among all signs there are",
        "A number is laid behind", "A LONG is laid behind", "A truth is laid behind", "The TEXT of a ROPE is laid behind",
        "A WORD is put in", "A SIGN is put in", "A number is put in", "A LONG is put in", "A truth is put in",
        "Nothing should be looked for", "A ROPE should be compared to nothing", "Knocks", "Computes a checksum");

    private final List<Edges.Case> sentences = new ArrayList<>();

    DocumentWords(Path document) throws IOException {
        int promise = -1;
        for (String line : Files.readAllLines(document, StandardCharsets.UTF_8)) {
            Matcher heading = PROMISE.matcher(line);
            if (heading.matches()) {
                promise = Integer.parseInt(heading.group(1));
            } else if (line.equals("## What it is") || line.equals("## Description")) {
                promise = 0;
            } else if (line.startsWith("## ")) {
                promise = -1;
            } else if (promise >= 0 && isSaying(line)) {
                add(promise, line);
            }
        }
    }

    private static boolean isSaying(String line) {
        return !line.isBlank() && !line.startsWith("`") && !line.startsWith("----") && !line.matches("\\d\\. .*");
    }

    private void add(int promise, String line) {
        Matcher item = ITEM.matcher(line);
        String saying = item.matches() ? item.group(1) : line.trim();
        for (String sentence : saying.split("\\.( |$)")) {
            sentences.add(new Edges.Case(promise, sentence));
        }
    }

    int size() {
        return sentences.size();
    }

    /** Sentences that neither are plain nor hold the words of any test of their promise. */
    List<Edges.Case> without(List<Edges.Case> tests) {
        List<Edges.Case> open = new ArrayList<>();
        for (Edges.Case sentence : sentences) {
            if (!PLAIN.contains(sentence.words()) && tests.stream().noneMatch(test -> isOf(test, sentence))) {
                open.add(sentence);
            }
        }
        return open;
    }

    /** Tests whose words do not stand in the document. */
    List<Edges.Case> strange(List<Edges.Case> tests) {
        List<Edges.Case> strange = new ArrayList<>();
        for (Edges.Case test : tests) {
            if (sentences.stream().noneMatch(sentence -> isOf(test, sentence))) {
                strange.add(test);
            }
        }
        return strange;
    }

    // An exception's line is one test's as a whole: a part of it would leave out who throws or when.
    private static boolean isOf(Edges.Case test, Edges.Case sentence) {
        return test.promise() == sentence.promise() && (sentence.words().startsWith("Throws")
            ? sentence.words().equals(test.words())
            : sentence.words().contains(test.words()));
    }
}
