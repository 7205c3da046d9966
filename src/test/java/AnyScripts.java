import java.util.ArrayList;
import java.util.List;
import java.util.Random;

/** Makes scripts, most of them without a fault, some with one. */
final class AnyScripts {
    private static final String[] EXTENSIONS = {"fileinto", "reject", "envelope", "copy", "imap4flags", "relational", "vacation",
        "comparator-i;ascii-numeric"};
    private static final String[] NAMES = {"Subject", "SUBJECT", "X-a", "To", "from", "to", "Cc", "From", "X-A", "x-b", "Bcc", "sender", "Auto-Submitted", "", "to "};
    private static final String[] KEYS = {"", "a", "B", "*", "?", "*a*", "a*b", "?b*", "\\*", "a\\", "\\?x", "12", "007", "7", "1x", "x1", "0",
        "anna@here", "ANNA@HERE", "ben@here", "s@x.y", "here", "anna", "s", "x.y", "*@*", "a b", "00012", "no", "\\Seen", "\\*se*", "\\draft",
        "99999999999999999999", "99999999999999999998", "*****b", "2", "1", "3", "{", "[", "\u00e4", "\u00c4"};
    private static final String[] FLAGS = {"\\Seen", "\\answered", "\\FLAGGED", "\\Deleted", "\\Draft", "Seen", "\\Seen \\Draft", "\\Recent", ""};
    private static final String[] BOXES = {"INBOX", "inbox", "a", "A", "b", "a b", "c.d", "x\\y", "Lists", "work", "12345678901234567890", "~"};
    private static final String[] BAD_BOXES = {"", "123456789012345678901", "a\"b", "\t", "\u007f", "\u00e4", "a\nb"};
    private static final String[] TARGETS = {"a@b", "A@B", "c@d", "e.f@g-h", "i@j", "k@l", "m@n", "s@x.y"};
    private static final String[] BAD_TARGETS = {"", "a", "a@", "@b", "a@b@c", "<a@b>", ".a@b", "a..b@c", "a@b.", "a b@c"};
    private static final String[] REASONS = {"off", "I am away.", "", ".", "..x", "a\r\nb", "a\nb\n", "\"q\" \\ ", "OFF", "\u00ff"};
    private static final String[] COMPARATORS = {"i;octet", "i;ascii-casemap", "i;ascii-numeric", "I;OCTET", "I;ascii-NUMERIC"};
    private static final String[] RELATIONS = {"gt", "ge", "lt", "le", "eq", "ne", "GT", "nE"};
    private static final String[] STRAYS = {";", ",", "(", ")", "[", "]", "{", "}", "\"", "x", "keep", "stop;", "if", "elsif", "else", "true", ":is", ":copy", ":over",
        "12", "1K", "2G", "2147483648", "2147483647", "9x", "\"s\"", ":", "/", "/*", "#", "\u0000", "\u00ff", "text:", "require", "@", "not", "0_", "\\", ".", "*/"};
    private static final String[] BETWEEN = {" ", " ", " ", " ", "\n", "\r\n", "\t", "  ", "/* c */", "/**/", "# c\n", "/* \n */", "/*/ * */", ""};

    private final Random random;
    private final List<String> tokens = new ArrayList<>();

    private AnyScripts(Random random) {
        this.random = random;
    }

    static String make(Random random) {
        AnyScripts any = new AnyScripts(random);
        any.requires();
        for (int i = random.nextInt(3) == 0 ? 5 : 0; i > 0; i--) {
            any.outcome(FLAGS[i - 1]);
        }
        if (random.nextInt(8) == 0) {
            any.nearALimit();
        }
        int commands = random.nextInt(random.nextInt(8) == 0 ? 40 : 7);
        for (int i = 0; i < commands; i++) {
            any.command(0);
        }
        int strays = random.nextInt(5) > 0 ? 0 : 1 + random.nextInt(2);
        for (int i = 0; i < strays; i++) {
            any.spoil();
        }
        String script = any.joined();
        return script.length() > 2000 ? script.substring(0, 2000) : script;
    }

    private String joined() {
        StringBuilder all = new StringBuilder();
        boolean plain = once(3);
        for (String token : tokens) {
            boolean glued = all.length() > 0 && !token.isEmpty() && isOfWord(all.charAt(all.length() - 1)) && isOfWord(token.charAt(0));
            all.append(glued && !once(300) ? " " : "").append(token).append(plain ? " " : of(BETWEEN));
        }
        return all.toString();
    }

    private static boolean isOfWord(char c) {
        return Character.isLetterOrDigit(c) || c == '_';
    }

    private void spoil() {
        if (tokens.isEmpty()) {
            return;
        }
        int at = random.nextInt(tokens.size());
        switch (random.nextInt(4)) {
            case 0: tokens.remove(at); break;
            case 1: tokens.add(at, of(STRAYS)); break;
            case 2: tokens.set(at, of(STRAYS)); break;
            default: tokens.add(at, tokens.get(random.nextInt(tokens.size())));
        }
    }

    private String of(String... these) {
        return these[random.nextInt(these.length)];
    }

    private boolean once(int in) {
        return random.nextInt(in) == 0;
    }

    /** In any case of its letters, at times. */
    private String cased(String word) {
        if (!once(5)) {
            return word;
        }
        StringBuilder all = new StringBuilder();
        for (char c : word.toCharArray()) {
            all.append(random.nextBoolean() ? Character.toUpperCase(c) : Character.toLowerCase(c));
        }
        return all.toString();
    }

    private void add(String... these) {
        for (String token : these) {
            tokens.add(token);
        }
    }

    private void string(String meant) {
        if (once(6) && (meant.isEmpty() || meant.endsWith("\n"))) {
            StringBuilder text = new StringBuilder(of("text:", "TEXT: \t")).append(of("\n", "\r\n"));
            for (String line : meant.isEmpty() ? new String[0] : meant.split("(?<=\n)")) {
                text.append(line.startsWith(".") ? "." : "").append(line);
            }
            add(text + of(".\n", ".\r\n"));
            return;
        }
        StringBuilder quoted = new StringBuilder("\"");
        for (char c : meant.toCharArray()) {
            quoted.append(c == '"' || c == '\\' || once(30) ? "\\" : "").append(c);
        }
        add(quoted + "\"");
    }

    private String oneOf(String[] from) {
        if (from != KEYS || once(2)) {
            return of(from);
        }
        StringBuilder few = new StringBuilder();
        for (int i = random.nextInt(5); i > 0; i--) {
            few.append("abAB01 *??*\\\u00e4".charAt(random.nextInt(13)));
        }
        return few.toString();
    }

    private void strings(String[] from) {
        if (once(2)) {
            string(oneOf(from));
            return;
        }
        int amount = once(40) ? 8 + random.nextInt(4) : 1 + random.nextInt(3);
        add("[");
        for (int i = 0; i < amount; i++) {
            if (i > 0) {
                add(",");
            }
            string(oneOf(from));
        }
        add("]");
    }

    private void requires() {
        if (once(12)) {
            for (int i = random.nextInt(4); i > 0; i--) {
                add(cased("require"));
                string(once(20) ? of("x", "fileinto ", "") : cased(of(EXTENSIONS)));
                add(";");
            }
            return;
        }
        add("require", "[");
        for (int i = 0; i < EXTENSIONS.length; i++) {
            add(i == 0 ? "" : ",");
            string(cased(EXTENSIONS[i]));
        }
        add("]", ";");
    }

    /** Something of which a script may have just so many. */
    private void nearALimit() {
        switch (random.nextInt(6)) {
            case 0:
                for (int i = 40 + random.nextInt(15); i > 0; i--) {
                    add("if", "true", once(9) ? "{stop;}" : "{}");
                }
                break;
            case 1:
                for (int i = 27 + random.nextInt(4); i > 0; i--) {
                    add("addflag", "[\"\",\"\",\"\",\"\",\"\",\"\",\"\",\"\",\"\",\"\"];");
                }
                break;
            case 2:
                add("reject", "text:\n" + "..34567\n".repeat(142) + "12345\n".substring(random.nextInt(5)) + "..\n".repeat(1 + random.nextInt(3)) + ".\n", ";");
                break;
            case 3:
                add("reject");
                string("\"".repeat(197 + random.nextInt(6)));
                add(";");
                break;
            case 4:
                int blocks = 7 + random.nextInt(3);
                add("if true {".repeat(blocks) + "}".repeat(blocks));
                break;
            default:
                add("if", "not\n".repeat(6 + random.nextInt(3)) + "true {}");
        }
    }

    /** A test whose outcome a flag will tell. */
    private void outcome(String flag) {
        add("if");
        test(7);
        add("{", "addflag");
        string(flag);
        add(";", "}");
    }

    private void block(int deep) {
        add("{");
        for (int i = random.nextInt(3); i > 0; i--) {
            command(deep + 1);
        }
        add("}");
    }

    private void flags() {
        if (once(3)) {
            add(cased(":flags"));
            strings(FLAGS);
        }
    }

    private void command(int deep) {
        switch (random.nextInt(deep > 8 ? 11 : 16)) {
            case 0: add(cased("stop")); break;
            case 1: add(cased(once(3) ? "discard" : "keep")); break;
            case 2: add(cased("keep")); flags(); break;
            case 3: case 4: fileInto(); break;
            case 5: case 6:
                add(cased("redirect"));
                add(once(3) ? cased(":copy") : "");
                string(of(once(90) ? BAD_TARGETS : TARGETS));
                break;
            case 7: add(cased(once(4) ? "reject" : "discard")); reason(); break;
            case 8: case 9:
                add(cased(of("setflag", "addflag", "addflag", "removeflag")));
                strings(FLAGS);
                break;
            case 10: vacation(); break;
            default:
                branches(deep);
                return;
        }
        add(";");
    }

    private void reason() {
        if (!tokens.get(tokens.size() - 1).equalsIgnoreCase("discard")) {
            string(of(REASONS));
        }
    }

    private void fileInto() {
        boolean copy = once(3);
        boolean ahead = once(2);
        add(cased("fileinto"));
        add(copy && ahead ? ":copy" : "");
        flags();
        add(copy && !ahead ? cased(":copy") : "");
        string(of(once(90) ? BAD_BOXES : BOXES));
    }

    private void vacation() {
        add(cased("vacation"));
        boolean twice = once(40);
        int told = random.nextInt(16);
        for (int i = 0; i < 8; i++) {
            if ((told >> i % 4 & 1) == 0 || i > 3 && !twice) {
                continue;
            }
            switch (i % 4) {
                case 0: add(":days", of("0", "1", "2", "7", "30", "31", "1K")); break;
                case 1: add(":subject"); string(of(KEYS)); break;
                case 2: add(":addresses"); strings(once(9) ? BAD_TARGETS : TARGETS); break;
                default: add(":handle"); string(of(REASONS));
            }
        }
        string(of(REASONS));
    }

    private void branches(int deep) {
        add(cased("if"));
        test(0);
        block(deep);
        for (int i = once(3) ? random.nextInt(3) : 0; i > 0; i--) {
            add(cased("elsif"));
            test(0);
            block(deep);
        }
        if (once(3)) {
            add(cased("else"));
            block(deep);
        }
    }

    private void how(boolean ofAddress) {
        boolean first = once(2);
        if (first) {
            comparator();
        }
        if (ofAddress && once(2)) {
            add(cased(of(":all", ":localpart", ":domain")));
        }
        switch (random.nextInt(6)) {
            case 0: add(cased(":is")); break;
            case 1: add(cased(":contains")); break;
            case 2: add(cased(":matches")); break;
            case 3: add(cased(":count")); string(of(RELATIONS)); break;
            case 4: add(cased(":value")); string(of(RELATIONS)); break;
            default: break;
        }
        if (!first && once(2)) {
            comparator();
        }
    }

    private void comparator() {
        if (once(2)) {
            add(cased(":comparator"));
            string(of(COMPARATORS));
        }
    }

    private void test(int deep) {
        switch (random.nextInt(deep > 8 ? 7 : 11)) {
            case 0: case 1: add(cased("header")); how(once(200)); strings(NAMES); strings(KEYS); break;
            case 2: add(cased("address")); how(true); strings(NAMES); strings(KEYS); break;
            case 3: add(cased("envelope")); how(true); strings(new String[] {"from", "TO", "From", "to", "cc"}); strings(KEYS); break;
            case 4: add(cased("hasflag")); how(once(200)); strings(KEYS); break;
            case 5:
                add(cased("size"), of(":over", ":under"), of("0", "100", "2K", "60", "61", "3K", "1m"));
                break;
            case 6: add(cased(once(2) ? "true" : "false")); break;
            case 7: add(cased("exists")); strings(NAMES); break;
            case 8: add(cased("not")); test(deep + 1); break;
            default:
                add(cased(of("allof", "anyof")), "(");
                test(deep + 1);
                for (int i = random.nextInt(3); i > 0; i--) {
                    add(",");
                    test(deep + 1);
                }
                add(")");
        }
    }
}
