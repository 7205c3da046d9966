import java.util.ArrayList;
import java.util.List;
import java.util.regex.Matcher;
import java.util.regex.Pattern;

/** Addresses and fields, written a second time from the document, as plainly as the Java library lets. */
final class PlainText {
    private static final Pattern ADDRESS = Pattern.compile(
        "[A-Za-z0-9!#$%&'*+\\-/=?^_`{|}~]+(\\.[A-Za-z0-9!#$%&'*+\\-/=?^_`{|}~]+)*@[A-Za-z0-9-]+(\\.[A-Za-z0-9-]+)*");
    private static final Pattern DOMAIN = Pattern.compile("[A-Za-z0-9-]+(\\.[A-Za-z0-9-]+)*");
    private static final Pattern FIELD = Pattern.compile("([\\x21-\\x39\\x3b-\\x7e]{1,60})[ \\t]*:(.*)", Pattern.DOTALL);

    private PlainText() {
    }

    static boolean isDomain(String text) {
        return text.length() <= 60 && DOMAIN.matcher(text).matches();
    }

    static boolean isAddress(String text) {
        int at = text.indexOf('@');
        return ADDRESS.matcher(text).matches() && at <= 40 && text.length() - at - 1 <= 60;
    }

    static String raised(String text) {
        StringBuilder all = new StringBuilder();
        for (char c : text.toCharArray()) {
            all.append(c >= 'a' && c <= 'z' ? (char) (c - 'a' + 'A') : c);
        }
        return all.toString();
    }

    static boolean alike(String one, String other) {
        return raised(one).equals(raised(other));
    }

    /** Name and value of each field of a message. */
    static List<String[]> fields(String message) {
        List<String[]> fields = new ArrayList<>();
        for (String line : message.split("\r\n", -1)) {
            Matcher field = FIELD.matcher(line);
            if (line.isEmpty()) {
                break;
            } else if (line.charAt(0) == ' ' || line.charAt(0) == '\t') {
                if (fields.isEmpty()) {
                    break;
                }
                fields.get(fields.size() - 1)[1] += line;
            } else if (field.matches()) {
                fields.add(new String[] {field.group(1), field.group(2)});
            } else {
                break;
            }
        }
        for (String[] field : fields) {
            field[1] = field[1].replaceAll("^[ \\t]+", "").replaceAll("[ \\t]+\\z", "");
        }
        return fields;
    }

    /** For each byte of a value: 'q' within " ", 'c' within ( ), both with their signs, or '.'. */
    private static String marks(String value) {
        StringBuilder marks = new StringBuilder();
        int at = 0;
        while (at < value.length()) {
            int end = at + 1;
            char mark = '.';
            if (value.charAt(at) == '"') {
                mark = 'q';
                end = quotedEnd(value, at);
            } else if (value.charAt(at) == '(') {
                mark = 'c';
                end = commentEnd(value, at);
            }
            while (at < end) {
                marks.append(mark);
                at++;
            }
        }
        return marks.toString();
    }

    private static int quotedEnd(String value, int start) {
        for (int i = start + 1; i < value.length(); i++) {
            if (value.charAt(i) == '\\') {
                i++;
            } else if (value.charAt(i) == '"') {
                return i + 1;
            }
        }
        return value.length();
    }

    private static int commentEnd(String value, int start) {
        int open = 0;
        for (int i = start; i < value.length(); i++) {
            char c = value.charAt(i);
            if (c == '\\') {
                i++;
            } else if (c == '(') {
                open++;
            } else if (c == ')') {
                open--;
                if (open == 0) {
                    return i + 1;
                }
            }
        }
        return value.length();
    }

    private static int plain(String value, String marks, char c, int from, int to) {
        for (int i = from; i < to; i++) {
            if (value.charAt(i) == c && marks.charAt(i) == '.') {
                return i;
            }
        }
        return -1;
    }

    static List<String> addresses(String value) {
        List<String> found = new ArrayList<>();
        String marks = marks(value);
        int start = 0;
        while (start <= value.length()) {
            int end = partEnd(value, marks, start);
            String address = addressOf(value, marks, start, end);
            if (isAddress(address)) {
                found.add(address);
            }
            start = end + 1;
        }
        return found;
    }

    private static int partEnd(String value, String marks, int start) {
        int length = value.length();
        int comma = plain(value, marks, ',', start, length);
        int angle = plain(value, marks, '<', start, comma < 0 ? length : comma);
        if (angle >= 0) {
            int close = plain(value, marks, '>', angle, length);
            comma = close < 0 ? -1 : plain(value, marks, ',', close, length);
        }
        return comma < 0 ? length : comma;
    }

    private static String addressOf(String value, String marks, int start, int end) {
        int from = start;
        int to = end;
        int angle = plain(value, marks, '<', start, end);
        if (angle >= 0) {
            from = angle + 1;
            to = plain(value, marks, '>', angle, end);
        }
        StringBuilder address = new StringBuilder();
        for (int i = from; i < to; i++) {
            char c = value.charAt(i);
            boolean blank = marks.charAt(i) == '.' && (c == ' ' || c == '\t');
            if (marks.charAt(i) != 'c' && !blank) {
                address.append(c);
            }
        }
        return address.toString();
    }
}
