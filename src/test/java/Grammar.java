import java.util.regex.Matcher;
import java.util.regex.Pattern;

/** The texts of the document as a regular expression: another way to the error position than the program's. */
final class Grammar {
    private static final String USER = "[0-5]";
    private static final String GROUP = "[0-2]";
    private static final String FILE = "[0-9],(0|[1-9][0-9]?)";
    private static final String SIZE = "(0|5000|[1-4][0-9]{3}|[1-9][0-9]{0,2})";
    private static final String COMMAND = "(c" + USER + "," + GROUP + "," + FILE + "," + SIZE
            + "|r" + FILE + "," + SIZE + "|d" + FILE + "|m" + FILE + "," + USER + "," + GROUP
            + "|n(100|[1-9][0-9]?))";
    private static final Pattern VALID = Pattern.compile(COMMAND + "(;" + COMMAND + ")*");

    private Grammar() {
    }

    /** By the words of the document: the first index up to which no valid text begins like this one. */
    static int errorOf(String text) {
        for (int i = 0; i < text.length(); i++) {
            Matcher matcher = VALID.matcher(text.substring(0, i + 1));
            if (!matcher.matches() && !matcher.hitEnd()) {
                return i;
            }
        }
        return VALID.matcher(text).matches() ? -1 : text.length();
    }
}
