import java.util.ArrayList;
import java.util.List;

/** Sentences of the document, each with the runs that test it. */
final class Sentences {
    /** The words are the sentence, or as much of its beginning as tells it from others. */
    record Sentence(String section, String words, List<Run> runs) {
    }

    final List<Sentence> all = new ArrayList<>();
    private String section = "";

    void section(String title) {
        section = title;
    }

    void promise(int number) {
        section("Promise " + number);
    }

    void of(String words, String... runs) {
        List<Run> read = new ArrayList<>();
        for (String run : runs) {
            read.add(new Run(run));
        }
        all.add(new Sentence(section, words, read));
    }

    /** The sentences that say nothing but that there is no window. */
    void nothing(String words, String... calls) {
        StringBuilder run = new StringBuilder();
        for (String call : calls) {
            run.append(call).append(": -4\n");
        }
        of(words, run + "found(-4): " + calls.length + "\n");
    }
}
