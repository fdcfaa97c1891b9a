import java.io.IOException;
import java.nio.file.Files;
import java.nio.file.Path;
import java.util.ArrayList;
import java.util.List;

/**
 * All promises, sentence by sentence: each sentence's test holds for the class and for the Model, and fails for
 * every Model in which that sentence is broken. No sentence of the document is without a test.
 */
final class SentencesTest {
    private static final Path DOCUMENT = Path.of("../shared/DOC.md");
    private static final Check check = new Check("SentencesTest");

    public static void main(String[] args) throws IOException {
        List<Sentence> sentences = new ArrayList<>();
        sentences.addAll(DiskSentences.all());
        sentences.addAll(RunSentences.all());
        sentences.addAll(MergeSentences.all());
        sentences.addAll(SortSentences.all());
        sentences.addAll(DistinctSentences.all());
        sentences.addAll(JoinSentences.all());
        sentences.addAll(ToldSentences.all());
        int checks = 0;
        int faults = 0;
        for (Sentence sentence : sentences) {
            checks += holds(sentence);
            for (Sentence.Fault fault : sentence.faults()) {
                check.that(nameOf(sentence) + " does not find: " + fault.name(), finds(sentence, fault));
                faults++;
            }
            check.that(nameOf(sentence) + " is broken by nothing", !sentence.faults().isEmpty());
        }
        covered(sentences);
        System.out.println("SentencesTest: " + sentences.size() + " tests of sentences with " + checks
            + " checks find " + faults + " faults");
        check.end();
    }

    private static String nameOf(Sentence sentence) {
        return sentence.section() + ", \"" + sentence.quote() + "\"";
    }

    private static int holds(Sentence sentence) {
        Check real = new Check(nameOf(sentence), Face::real, true);
        sentence.trial().accept(real);
        check.that(nameOf(sentence) + " is broken", real.wrong() == 0 && real.checks() > 0);
        Check model = new Check("the Model, " + nameOf(sentence), Model::new, true);
        sentence.trial().accept(model);
        check.that(nameOf(sentence) + " is broken in the Model", model.wrong() == 0);
        return real.checks();
    }

    /** A broken Model may come to an exception, which is as wrong as an answer. */
    private static boolean finds(Sentence sentence, Sentence.Fault fault) {
        Check broken = new Check(fault.name(), fault.maker(), false);
        try {
            sentence.trial().accept(broken);
        } catch (RuntimeException thrown) {
            return true;
        }
        return broken.wrong() > 0;
    }

    /** Each quote stands in its section, and no word of the sections is left that is in no quote. */
    private static void covered(List<Sentence> sentences) throws IOException {
        List<String> sections = new ArrayList<>(List.of("Terms"));
        for (int promise = 1; promise <= 11; promise++) {
            sections.add("Promise " + promise);
        }
        String document = Files.readString(DOCUMENT);
        for (Sentence sentence : sentences) {
            check.that("the document does not say: " + nameOf(sentence),
                textOf(document, sentence.section()).contains(sentence.quote()));
        }
        for (String section : sections) {
            String left = textOf(document, section);
            for (Sentence sentence : sentences) {
                left = sentence.section().equals(section) ? left.replace(sentence.quote(), " ") : left;
            }
            check.that(section + " has no test for: " + left.strip(), !left.matches("(?s).*\\w.*"));
        }
    }

    /** A section in one line, without its heading, the fences of its code, and the method's head. */
    private static String textOf(String document, String section) {
        int from = document.indexOf("\n## " + section);
        if (from < 0) {
            return "";
        }
        int begin = document.indexOf('\n', from + 1);
        int end = document.indexOf("\n## ", begin);
        return document.substring(begin, end < 0 ? document.length() : end)
            .replaceAll("```\\w*", " ")
            .replaceAll("`(int )?\\w+\\(.*?\\)`:", " ")
            .replaceAll("\\s+", " ");
    }
}
