import java.util.ArrayList;
import java.util.List;
import java.util.regex.Matcher;
import java.util.regex.Pattern;

/**
 * Calls on a new object, a line each, with the answers that are due: "count(0): 4". Several answers
 * are those of the same call again and again, or, of a call with a row of numbers ("count(0..2): 4
 * 4 0"), one for each of them; a single answer is then due for all.
 */
final class Run {
    private static final Pattern LINE = Pattern.compile("(\\w+\\(.*\\)):(.*)");
    private static final Pattern ROW = Pattern.compile("(-?\\d+)\\.\\.(-?\\d+)");

    final List<Act> acts = new ArrayList<>();
    final List<Long> due = new ArrayList<>();

    Run(String text) {
        text.lines().map(String::strip).filter(line -> !line.isEmpty()).forEach(this::read);
    }

    private void read(String line) {
        Matcher parts = LINE.matcher(line);
        if (!parts.matches()) {
            throw new IllegalArgumentException("not a call with its answers: " + line);
        }
        String[] answers = parts.group(2).strip().split(" +");
        Matcher row = ROW.matcher(parts.group(1));
        if (!row.find()) {
            for (String answer : answers) {
                append(parts.group(1), answer);
            }
            return;
        }
        int first = Integer.parseInt(row.group(1));
        int last = Integer.parseInt(row.group(2));
        if (answers.length != 1 && answers.length != last - first + 1) {
            throw new IllegalArgumentException("too few or too many answers: " + line);
        }
        for (int i = first; i <= last; i++) {
            append(row.replaceFirst(Integer.toString(i)), answers[answers.length == 1 ? 0 : i - first]);
        }
    }

    private void append(String call, String answer) {
        acts.add(Act.of(call));
        due.add(Long.valueOf(answer));
    }
}
