import java.math.BigInteger;
import java.util.ArrayList;
import java.util.Arrays;
import java.util.LinkedHashMap;
import java.util.List;
import java.util.Map;

/** The running of a script over a message, written a second time from the document. */
final class PlainRun {
    private static final List<String> FLAGS = Arrays.asList("\\Seen", "\\Answered", "\\Flagged", "\\Deleted", "\\Draft");
    private static final BigInteger ABOVE_ALL = BigInteger.TEN.pow(5000);

    /** The end of a script, by stop or because it fails. */
    private static final class End extends RuntimeException {
        private static final long serialVersionUID = 1;
        final boolean failed;

        End(boolean failed) {
            super(null, null, false, false);
            this.failed = failed;
        }
    }

    /** Mailboxes with the flags there, in the order of the actions. */
    final Map<String, Integer> files = new LinkedHashMap<>();
    final List<String> redirects = new ArrayList<>();
    PlainScript.Part reject;
    PlainScript.Part vacation;
    private final String sender;
    private final String recipient;
    private final String message;
    private final List<String[]> fields;
    private final List<String> boxes;
    private boolean keeps = true;
    private int flags;

    PlainRun(String sender, String recipient, String message, List<String> boxes) {
        this.sender = sender;
        this.recipient = recipient;
        this.message = message;
        this.boxes = boxes;
        fields = PlainText.fields(message);
    }

    void run(List<PlainScript.Part> commands) {
        boolean failed = false;
        try {
            all(commands);
        } catch (End end) {
            failed = end.failed;
        }
        if (failed) {
            files.clear();
            redirects.clear();
            reject = null;
            vacation = null;
            keeps = true;
            flags = 0;
        }
        if (keeps) {
            files.putIfAbsent("INBOX", flags);
        }
    }

    private static int bits(List<String> names) {
        int bits = 0;
        for (String name : names) {
            for (int i = 0; i < FLAGS.size(); i++) {
                bits |= PlainText.alike(name, FLAGS.get(i)) ? 1 << i : 0;
            }
        }
        return bits;
    }

    private void all(List<PlainScript.Part> commands) {
        for (PlainScript.Part command : commands) {
            one(command);
        }
    }

    private void one(PlainScript.Part command) {
        boolean copy = command.tags.containsKey(":copy");
        List<String> told = command.tags.get(":flags");
        switch (command.word) {
            case "if":
                for (int i = 0; i < command.blocks.size(); i++) {
                    if (i == command.parts.size() || holds(command.parts.get(i))) {
                        all(command.blocks.get(i));
                        break;
                    }
                }
                break;
            case "stop": throw new End(false);
            case "discard": keeps = false; break;
            case "keep": file("INBOX", told == null ? flags : bits(told), false); break;
            case "fileinto":
                String box = command.strings.get(0).get(0);
                file(PlainText.alike(box, "INBOX") ? "INBOX" : box, told == null ? flags : bits(told), copy);
                break;
            case "redirect": redirect(command.strings.get(0).get(0), copy); break;
            case "reject":
                if (!files.isEmpty() || !redirects.isEmpty() || reject != null || vacation != null) {
                    throw new End(true);
                }
                reject = command;
                keeps = false;
                break;
            case "vacation":
                if (reject != null || vacation != null) {
                    throw new End(true);
                }
                vacation = command;
                break;
            case "setflag": flags = bits(command.strings.get(0)); break;
            case "addflag": flags |= bits(command.strings.get(0)); break;
            default: flags &= ~bits(command.strings.get(0)); break;
        }
    }

    private void file(String box, int with, boolean copy) {
        files.putIfAbsent(box, with);
        long made = files.keySet().stream().filter(name -> !boxes.contains(name)).count();
        if (reject != null || boxes.size() + made > 6) {
            throw new End(true);
        }
        keeps &= copy;
    }

    private void redirect(String address, boolean copy) {
        if (redirects.stream().noneMatch(other -> PlainText.alike(other, address))) {
            redirects.add(address);
        }
        if (reject != null || redirects.size() > 4) {
            throw new End(true);
        }
        keeps &= copy;
    }

    private boolean holds(PlainScript.Part test) {
        switch (test.word) {
            case "true": return true;
            case "false": return false;
            case "not": return !holds(test.parts.get(0));
            case "allof": return test.parts.stream().allMatch(this::holds);
            case "anyof": return test.parts.stream().anyMatch(this::holds);
            case "size":
                return test.tags.containsKey(":over") ? message.length() > test.number : message.length() < test.number;
            case "exists":
                return test.strings.get(0).stream().allMatch(
                    name -> fields.stream().anyMatch(field -> PlainText.alike(field[0], name)));
            default: return matches(test, values(test), test.strings.get(test.strings.size() - 1));
        }
    }

    private static boolean isAmong(List<String> names, String name) {
        return names.stream().anyMatch(other -> PlainText.alike(other, name));
    }

    private List<String> values(PlainScript.Part test) {
        List<String> values = new ArrayList<>();
        List<String> names = test.strings.get(0);
        if (test.word.equals("hasflag")) {
            for (int i = 0; i < FLAGS.size(); i++) {
                if ((flags >> i & 1) == 1) {
                    values.add(FLAGS.get(i));
                }
            }
            return values;
        }
        if (test.word.equals("envelope")) {
            if (isAmong(names, "from")) {
                values.add(sender);
            }
            if (isAmong(names, "to")) {
                values.add(recipient);
            }
        } else {
            for (String[] field : fields) {
                if (isAmong(names, field[0])) {
                    values.addAll(test.word.equals("header") ? Arrays.asList(field[1]) : PlainText.addresses(field[1]));
                }
            }
        }
        if (test.tags.containsKey(":localpart")) {
            values.replaceAll(value -> value.isEmpty() ? "" : value.substring(0, value.indexOf('@')));
        } else if (test.tags.containsKey(":domain")) {
            values.replaceAll(value -> value.isEmpty() ? "" : value.substring(value.indexOf('@') + 1));
        }
        return values;
    }

    private static boolean stands(int order, String relation) {
        switch (PlainText.raised(relation)) {
            case "GT": return order > 0;
            case "GE": return order >= 0;
            case "LT": return order < 0;
            case "LE": return order <= 0;
            case "EQ": return order == 0;
            default: return order != 0;
        }
    }

    /** The number of a text's leading digits; without any one that is greater than all that can come. */
    private static BigInteger number(String text) {
        int end = 0;
        while (end < text.length() && text.charAt(end) >= '0' && text.charAt(end) <= '9') {
            end++;
        }
        return end == 0 ? ABOVE_ALL : new BigInteger(text.substring(0, end));
    }

    private static boolean matches(PlainScript.Part test, List<String> values, List<String> keys) {
        String comparator = "I;ASCII-CASEMAP";
        if (test.tags.containsKey(":comparator")) {
            comparator = PlainText.raised(test.tags.get(":comparator").get(0));
        }
        for (String key : keys) {
            if (test.tags.containsKey(":count")) {
                int order = BigInteger.valueOf(values.size()).compareTo(number(key));
                if (stands(order, test.tags.get(":count").get(0))) {
                    return true;
                }
                continue;
            }
            for (String value : values) {
                if (match(test, comparator, value, key)) {
                    return true;
                }
            }
        }
        return false;
    }

    private static boolean match(PlainScript.Part test, String comparator, String value, String key) {
        boolean numeric = comparator.equals("I;ASCII-NUMERIC");
        boolean casemap = comparator.equals("I;ASCII-CASEMAP");
        String one = casemap ? PlainText.raised(value) : value;
        String other = casemap ? PlainText.raised(key) : key;
        int order = numeric ? number(value).compareTo(number(key)) : one.compareTo(other);
        if (test.tags.containsKey(":value")) {
            return stands(order, test.tags.get(":value").get(0));
        }
        if (test.tags.containsKey(":contains")) {
            return !numeric && one.contains(other);
        }
        if (test.tags.containsKey(":matches")) {
            return !numeric && isPattern(one, other);
        }
        return order == 0;
    }

    /** By a table: what is at [v][k] tells whether the value from v on is the key from k on. */
    private static boolean isPattern(String value, String key) {
        boolean[][] fits = new boolean[value.length() + 2][key.length() + 2];
        fits[value.length()][key.length()] = true;
        for (int v = value.length(); v >= 0; v--) {
            for (int k = key.length() - 1; k >= 0; k--) {
                char c = key.charAt(k);
                boolean more = v < value.length();
                if (c == '*') {
                    fits[v][k] = fits[v][k + 1] || more && fits[v + 1][k];
                } else if (c == '?') {
                    fits[v][k] = more && fits[v + 1][k + 1];
                } else if (c == '\\' && k + 1 < key.length()) {
                    fits[v][k] = more && value.charAt(v) == key.charAt(k + 1) && fits[v + 1][k + 2];
                } else {
                    fits[v][k] = more && value.charAt(v) == c && fits[v + 1][k + 1];
                }
            }
        }
        return fits[0][0];
    }

    /** The first value of a field, or nothing. */
    private String first(String name) {
        for (String[] field : fields) {
            if (PlainText.alike(field[0], name)) {
                return field[1];
            }
        }
        return "";
    }

    String handle() {
        List<String> told = vacation.tags.get(":handle");
        return told == null ? vacation.strings.get(0).get(0) : told.get(0);
    }

    int days() {
        return vacation.tags.containsKey(":days") ? Math.min(30, Math.max(1, vacation.number)) : 7;
    }

    /** Whether vacation would answer, notes aside. */
    boolean mayAnswer() {
        if (vacation == null || sender.isEmpty()) {
            return false;
        }
        String local = PlainText.raised(sender.substring(0, sender.indexOf('@')));
        if (Arrays.asList("MAILER-DAEMON", "LISTSERV", "MAJORDOMO").contains(local) || local.startsWith("OWNER-")
            || local.endsWith("-REQUEST")) {
            return false;
        }
        List<String> own = new ArrayList<>(vacation.tags.getOrDefault(":addresses", new ArrayList<>()));
        own.removeIf(address -> !PlainText.isAddress(address));
        own.add(recipient);
        boolean named = false;
        for (String[] field : fields) {
            if (isAmong(Arrays.asList("List-Id", "List-Post", "Precedence"), field[0])
                || PlainText.alike(field[0], "Auto-Submitted") && !PlainText.alike(field[1], "no")) {
                return false;
            }
            if (isAmong(Arrays.asList("To", "Cc", "Bcc"), field[0])) {
                named |= PlainText.addresses(field[1]).stream().anyMatch(address -> isAmong(own, address));
            }
        }
        return named;
    }

    String answer() {
        String subject = "Refused";
        PlainScript.Part from = reject;
        if (reject == null) {
            from = vacation;
            List<String> told = vacation.tags.get(":subject");
            subject = told == null ? "Auto: " + first("Subject") : told.get(0);
        }
        return "To: " + sender + "\r\nSubject: " + subject + "\r\n\r\n" + from.strings.get(0).get(0) + "\r\n";
    }
}
