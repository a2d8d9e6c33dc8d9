import java.io.IOException;
import java.util.List;
import java.util.Map;

/**
 * Every sentence of the document's terms and promises has runs of its own: on the far and the near
 * side of each limit, at nothing and at full, and refused. A refused call must leave all as it was,
 * which is looked at behind runs that leave calls enough for it.
 */
public final class BoundaryTest {
    private static int wrong = 0;
    private static int replayed = 0;

    public static void main(String[] args) throws IOException {
        Sentences sentences = new Sentences();
        TermSentences.tell(sentences);
        WindowSentences.tell(sentences);
        PaneSentences.tell(sentences);
        GlassSentences.tell(sentences);
        CuttingSentences.tell(sentences);
        PlaceSentences.tell(sentences);
        sentences.all.forEach(BoundaryTest::check);
        if (Document.isThere()) {
            checkThatAllAreTested(Document.sentences(), sentences);
            checkThatAllAreTold(Document.sentences(), sentences);
        }
        System.out.println(sentences.all.size() + " sentences, " + replayed + " refused calls replayed");
        System.out.println(wrong == 0 ? "all sentences hold" : wrong + " answers are not as due");
        System.exit(wrong == 0 ? 0 : 1);
    }

    private static void fault(String text) {
        wrong++;
        System.out.println(text);
    }

    private static void check(Sentences.Sentence sentence) {
        String place = sentence.section() + ", \"" + sentence.words() + "\", run ";
        for (int i = 0; i < sentence.runs().size(); i++) {
            Run run = sentence.runs().get(i);
            checkAnswers(place + (i + 1), run, new GlazierBench());
            // The plain one is what random runs are held against, so it must hold, too.
            checkAnswers("plain: " + place + (i + 1), run, new PlainBench());
            checkRefusals(place + (i + 1), run);
        }
    }

    private static void checkAnswers(String place, Run run, Object bench) {
        for (int i = 0; i < run.acts.size(); i++) {
            long got = run.acts.get(i).on(bench);
            long due = run.due.get(i);
            if (got != due) {
                fault(place + ", call " + (i + 1) + ": " + run.acts.get(i) + " answered " + got + ", due is " + due);
            }
        }
    }

    private static void checkRefusals(String place, Run run) {
        for (int i = 0; i < run.acts.size(); i++) {
            Refusal refusal = new Refusal(run.acts.subList(0, i), run.acts.get(i), run.due.get(i));
            if (run.due.get(i) < 0 && refusal.canBeReplayed()) {
                replayed++;
                refusal.changes().forEach(change -> fault(place + ", " + change));
            }
        }
    }

    private static void checkThatAllAreTested(Map<String, List<String>> document, Sentences sentences) {
        document.forEach((section, all) -> all.forEach(words -> {
            boolean tested = sentences.all.stream()
                .anyMatch(s -> s.section().equals(section) && words.startsWith(s.words()));
            if (!tested) {
                fault(section + ": no test of \"" + words + "\"");
            }
        }));
    }

    /** So that no test stands for a sentence that the document doesn't have. */
    private static void checkThatAllAreTold(Map<String, List<String>> document, Sentences sentences) {
        for (Sentences.Sentence sentence : sentences.all) {
            List<String> section = document.getOrDefault(sentence.section(), List.of(sentence.words()));
            if (section.stream().noneMatch(words -> words.startsWith(sentence.words()))) {
                fault(sentence.section() + " doesn't say \"" + sentence.words() + "\"");
            }
        }
    }
}
