import java.io.IOException;
import java.nio.file.Files;
import java.nio.file.Path;
import java.util.LinkedHashMap;
import java.util.Map;

/**
 * Answers that stand for sentences of the document: each group of them names where the sentence
 * stands and its words. At the end no sentence of the terms and the promises may be without one.
 */
final class Sentences {
    private static final Path DOCUMENT = Path.of("../shared/DOC.md");

    /** A section's words, one blank between two, and which of its signs some sentence named. */
    private record Section(String words, boolean[] named) { }

    private final Map<String, Section> sections = new LinkedHashMap<>();
    private String sentence = "";
    private int answers;
    private int answersBefore;
    private int wrong;
    private int named;

    Sentences() throws IOException {
        if (!Files.exists(DOCUMENT)) {
            System.out.println(DOCUMENT + " is not there: the answers are tested, the words of the sentences are not");
            return;
        }
        for (String part : Files.readString(DOCUMENT).split("\n## ")) {
            int end = part.indexOf('\n');
            String title = part.substring(0, end < 0 ? part.length() : end).replaceAll(":.*", "");
            String words = part.substring(end < 0 ? part.length() : end).replaceAll("```[a-z]*", " ")
                    .replaceAll("`[^`]*`: ?", " ").replaceAll("\\s+", " ").trim();
            sections.put(title, new Section(words, new boolean[words.length()]));
        }
    }

    /** The answers from here on stand for a sentence of a section. */
    void says(String title, String words) {
        endSentence();
        sentence = title + ", \"" + words + "\"";
        named++;
        if (sections.isEmpty()) return;
        Section section = sections.get(title);
        int from = section == null ? -1 : section.words.indexOf(words);
        if (from < 0) {
            complain("does not stand in the document");
            return;
        }
        for (int i = from; i < from + words.length(); i++) section.named[i] = true;
    }

    void due(String call, long got, long want) {
        answers++;
        if (got != want) complain(call + " answered " + got + ", due is " + want);
    }

    /** All RECORDS of a run, in order, and none more. */
    void records(WatchStack x, int[]... want) {
        for (int k = 0; k < want.length; k++) {
            for (int what = 0; what < 4; what++) due("record " + k + " " + what, x.record(k, what), want[k][what]);
        }
        due("record " + want.length, x.record(want.length, 0), -1);
        due("faults", x.faults(x.count(0)), want.length);
    }

    private void complain(String what) {
        wrong++;
        if (wrong <= 40) System.out.println(sentence + ": " + what);
    }

    private void endSentence() {
        if (named > 0 && answers == answersBefore) complain("has no answer of its own");
        answersBefore = answers;
    }

    /** Each word of the terms and of each promise is named; prints the sum, ends with 1 if not all is well. */
    void end(String name) {
        endSentence();
        for (Map.Entry<String, Section> entry : sections.entrySet()) {
            if (entry.getKey().equals("Terms") || entry.getKey().startsWith("Promise ")) {
                findUnnamed(entry.getKey(), entry.getValue());
            }
        }
        System.out.println(name + ": " + answers + " answers for " + named + " sentences, " + wrong + " not as due");
        if (wrong != 0) System.exit(1);
    }

    private void findUnnamed(String title, Section section) {
        sentence = title;
        int from = -1;
        for (int i = 0; i <= section.named.length; i++) {
            boolean missing = i < section.named.length && !section.named[i]
                    && (from >= 0 || section.words.charAt(i) != ' ');
            if (missing && from < 0) from = i;
            if (!missing && from >= 0) {
                complain("no sentence names \"" + section.words.substring(from, i).trim() + "\"");
                from = -1;
            }
        }
    }
}
