import java.util.ArrayList;
import java.util.List;
import java.util.regex.Matcher;
import java.util.regex.Pattern;

/** The text once more, by patterns: an error stands where no beginning of a timetable goes on. */
final class PlainText {
    private static final Pattern WHOLE =
            Pattern.compile("([1-4])([1-3])([0-9]{1,4}),([0-9]{1,4})(?:p([0-9]{1,3}))?;");

    final List<int[]> planes = new ArrayList<>();
    int error = -1;

    PlainText(String text) {
        int at = 0;
        while (error < 0 && at < text.length()) {
            if (planes.size() == 12) {
                error = at;
            } else {
                at = one(text, at);
            }
        }
    }

    /** Every beginning of one aircraft is tried, the shortest first; the first one that is wrong tells where. */
    private int one(String text, int from) {
        for (int to = from + 1; to <= text.length(); to++) {
            String part = text.substring(from, to);
            boolean ended = to == text.length();
            int wrong = wrongIn(part, ended);
            if (wrong >= 0) {
                error = from + wrong;
                return to;
            }
            Matcher whole = WHOLE.matcher(part);
            if (whole.matches()) {
                int passengers = whole.group(5) == null ? 100 : Integer.parseInt(whole.group(5));
                planes.add(new int[] {10 * Integer.parseInt(whole.group(1)) + Integer.parseInt(whole.group(2)),
                    Integer.parseInt(whole.group(3)), Integer.parseInt(whole.group(4)), passengers});
                return to;
            }
        }
        error = text.length();
        return text.length();
    }

    private static int wrongIn(String part, boolean ended) {
        Matcher comes = Pattern.compile("[1-4][1-3]([0-9]{1,4})(|[^0-9].*)", Pattern.DOTALL).matcher(part);
        if (comes.matches() && (ended || !comes.group(2).isEmpty()) && Integer.parseInt(comes.group(1)) > 1999) {
            return 2;
        }
        Matcher leaves = Pattern.compile("[1-4][1-3]([0-9]{1,4}),([0-9]{1,4})(|[^0-9].*)", Pattern.DOTALL)
                .matcher(part);
        if (leaves.matches() && (ended || !leaves.group(3).isEmpty())) {
            int minute = Integer.parseInt(leaves.group(2));
            if (minute > 1999 || minute <= Integer.parseInt(leaves.group(1))) {
                return leaves.start(2);
            }
        }
        Matcher riders = Pattern.compile("[1-4][1-3][0-9]{1,4},[0-9]{1,4}p([0-9]{1,3})(|[^0-9].*)", Pattern.DOTALL)
                .matcher(part);
        if (riders.matches() && (ended || !riders.group(2).isEmpty()) && Integer.parseInt(riders.group(1)) > 400) {
            return riders.start(1);
        }
        Matcher begun = WHOLE.matcher(part);
        return begun.matches() || begun.hitEnd() ? -1 : part.length() - 1;
    }
}
