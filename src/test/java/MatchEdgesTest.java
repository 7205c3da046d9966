/** Running a script: the edges of its tests, matches and comparators. */
public final class MatchEdgesTest {
    private static final String NUMERIC = "header :comparator \"i;ascii-numeric\" ";
    private static final String[] RELATIONS = {"gt", "ge", "lt", "le", "eq", "ne"};

    public static void main(String[] args) {
        namesAndKeys();
        envelopes();
        addressParts();
        flagNames();
        exists();
        sizes();
        same();
        contained();
        patterns();
        escapedPatterns();
        starsInPatterns();
        numbers();
        ordered();
        counted();
        asFarAsNeeded();
        Probe.end("MatchEdgesTest");
    }

    private static void namesAndKeys() {
        Probe.sentence("header: some value of a field of one of the names (first strings) matches one of the keys (second)");
        String message = "a: 1\r\na: 2\r\nb: 3\r\nkey: key\r\n";
        Bench.holds("header [\"x\",\"y\",\"a\"] [\"7\",\"8\",\"2\"]", message, true);
        Bench.holds("header [\"a\",\"b\"] [\"3\"]", message, true);
        Bench.holds("header \"a\" \"3\"", message, false);
        Bench.holds("header \"none\" \"key\"", message, false);
        Bench.holds("header \"none\" [\"x\",\"key\"]", message, false);
        Bench.holds("if header \"x\" \"key\"{}", "header \"none\" \"key\"", message, false);
        Bench.holds("header :comparator \"i;octet\" \"none\" \"key\"", "i;octet: key\r\n", false);
        Bench.holds("anyof(header \"b\" \"2\",header \"3\" \"b\")", message, false);
        Bench.holds("header \"\" \"\"", message, false);
        Bench.holds("header \"none\" \"\"", message, false);
    }

    private static void envelopes() {
        Probe.sentence("envelope: of the names from and to (others give nothing): the sender's address (\"\" without one), the recipient's as told");
        Bench.holds("envelope :comparator \"i;octet\" \"from\" \"Sam@Far.net\"", "", true);
        Bench.holds("envelope :comparator \"i;octet\" \"to\" \"Anna@here\"", "", true);
        Bench.holds("envelope :comparator \"i;octet\" \"to\" \"anna@here\"", "", false);
        Bench.holds("envelope \"FROM\" \"sam@far.NET\"", "", true);
        Bench.holds("envelope [\"cc\",\"subject\",\"\",\"fro\",\"tot\"] [\"\",\"sam@far.net\",\"anna@here\"]", "cc: anna@here\r\n", false);
        Bench.holds("envelope :count \"eq\" [\"cc\",\"bcc\"] \"0\"", "", true);
        Bench.holds("envelope :count \"eq\" [\"from\",\"FROM\",\"to\",\"To\",\"x\"] \"2\"", "", true);
        Bench.holds("if header \"x\" \"from\"{}", "envelope \"cc\" \"sam@far.net\"", "", false);
        Bench.holds("envelope \"cc\" [\"from\",\"sam@far.net\"]", "", false);
        Bench.holds("envelope :count \"eq\" \"cc\" [\"1\",\"from\"]", "", false);
        Probe p = new Probe();
        p.activate(0, Bench.ALL + "if allof(envelope \"from\" \"\",envelope :all \"from\" \"\",envelope :localpart \"from\" \"\",envelope :domain \"from\" \"\","
            + "envelope :count \"eq\" \"from\" \"1\",not envelope \"from\" \"anna@here\"){discard;}");
        p.greet();
        p.send("<>", "anna@here", "");
        Probe.due("without a sender", p.call().count(0), 0);
        p.send("<x@y>", "anna@here", "");
        Probe.due("with one", p.call().count(0), 1);
        twoRecipients();
    }

    private static void twoRecipients() {
        Probe p = new Probe();
        p.activate(0, Bench.ALL + "if envelope :comparator \"i;octet\" \"to\" \"ANNA@here\"{fileinto \"x\";}");
        p.activate(1, Bench.ALL + "if envelope \"to\" \"anna@here\"{fileinto \"x\";}elsif envelope \"to\" \"BEN@here\"{fileinto \"y\";}");
        p.greet();
        p.mail("MAIL FROM:<>\r\nRCPT TO:<anna@here>\r\nRCPT TO:<ANNA@here>\r\nRCPT TO:<ben@here>\r\nDATA\r\n.\r\n");
        Probe.due("the recipient's own script, with his address as told", p.boxes(0) + " " + p.boxes(1), "INBOX:1 x:1 INBOX:0 y:1");
    }

    private static void addressParts() {
        Probe.sentence("Of an address :all (if none is told), what stands ahead of @, or behind it");
        String message = "a: x.y@Z.w, b@c\r\n";
        Bench.holds("address :all :comparator \"i;octet\" \"a\" \"x.y@Z.w\"", message, true);
        Bench.holds("address :localpart :comparator \"i;octet\" \"a\" \"x.y\"", message, true);
        Bench.holds("address :domain :comparator \"i;octet\" \"a\" \"Z.w\"", message, true);
        Bench.holds("address :localpart \"a\" [\"b\"]", message, true);
        Bench.holds("address :domain \"a\" [\"c\"]", message, true);
        Bench.holds("address :localpart :contains \"a\" \"@\"", message, false);
        Bench.holds("address :domain :contains \"a\" \"@\"", message, false);
        Bench.holds("address :all :contains \"a\" \"@\"", message, true);
        Bench.holds("address :localpart \"a\" \"\"", message, false);
        Bench.holds("address :count \"eq\" :domain \"a\" \"2\"", message, true);
        Bench.holds("address \"a\" \"\"", "a: none\r\n", false);
    }

    private static void flagNames() {
        Probe.sentence("hasflag: some flag that is set, as a name (as it stands below)");
        String all = "setflag [\"\\\\seen\",\"\\\\ANSWERED\",\"\\\\Flagged\",\"\\\\deleted\",\"\\\\DRAFT\"];";
        String[] names = {"\\Seen", "\\Answered", "\\Flagged", "\\Deleted", "\\Draft"};
        for (String name : names) {
            Bench.holds(all, "hasflag :comparator \"i;octet\" " + Bench.quoted(name), "", true);
            Bench.holds("setflag " + Bench.quoted(name) + ";", "allof(hasflag :count \"eq\" \"1\",hasflag " + Bench.quoted(name.toLowerCase()) + ")", "", true);
            Bench.holds(all + "removeflag " + Bench.quoted(name) + ";", "hasflag " + Bench.quoted(name), "", false);
        }
        Bench.holds(all, "hasflag :count \"eq\" \"5\"", "", true);
        Bench.holds("hasflag [\"\",\"\\\\Seen\"]", "", false);
        Bench.holds("hasflag :count \"eq\" \"0\"", "", true);
        Bench.holds("hasflag :contains \"\"", "", false);
        Bench.holds("setflag [\"Seen\",\"\\\\Foo\",\"\\\\\",\"\",\"\\\\Seen \",\"\\\\Seens\"];", "hasflag :count \"eq\" \"0\"", "", true);
        Bench.holds("setflag \"\\\\Seen\";", "header :count \"eq\" [\"\\\\Seen\",\"x\"] \"0\"", "", true);
        Bench.holds("setflag \"\\\\Seen\";", "address \"x\" \"\\\\Seen\"", "x: y\r\n", false);
    }

    private static void exists() {
        Probe.sentence("exists: there is a field of each name");
        String message = "a: 1\r\nB: 2\r\n";
        Bench.holds("exists [\"a\",\"b\",\"A\"]", message, true);
        Bench.holds("exists [\"a\",\"b\",\"c\"]", message, false);
        Bench.holds("exists [\"c\",\"a\"]", message, false);
        Bench.holds("exists \"\"", message, false);
        Bench.holds("exists \"a \"", message, false);
    }

    private static void sizes() {
        Probe.sentence("size: the message has more (fewer) bytes");
        Bench.holds("size :over 0", "", false);
        Bench.holds("size :under 0", "", false);
        Bench.holds("size :under 1", "", true);
        Bench.holds("size :over 1", "\r\n", true);
        Bench.holds("size :over 2", "\r\n", false);
        Bench.holds("size :under 2", "\r\n", false);
        Bench.holds("size :under 3", "\r\n", true);
        Bench.holds("size :under 2147483647", "\r\n", true);
        Bench.holds("size :over 2147483647", "\r\n", false);
    }

    private static void same() {
        Probe.sentence(":is the same (MATCH :is, if none is told; without case, if no comparator is told)");
        Bench.holds("header \"a\" \"\"", "a:\r\n", true);
        Bench.holds("header \"a\" \"\"", "a: x\r\n", false);
        Bench.holds("header \"a\" \"x\"", "a:\r\n", false);
        Bench.holds("header \"a\" \"xy\"", "a: x\r\n", false);
        Bench.holds("header \"a\" \"x\"", "a: xy\r\n", false);
        Bench.holds("header \"a\" \"XY\"", "a: xy\r\n", true);
        Bench.holds("header :is :comparator \"i;octet\" \"a\" \"XY\"", "a: xy\r\n", false);
        Bench.holds("header :is \"a\" [\"*\",\"x?\"]", "a: xy\r\n", false);
        Bench.holds("header \"a\" \"\u007f\u0080\"", "a: \u007f\u0080\r\n", true);
    }

    private static void contained() {
        Probe.sentence(":contains the key is in it");
        String[] inside = {"", "h", "o", "hello", "ell", "HE", "lo"};
        String[] outside = {"x", "hello!", "helo", "ol", "hellohello", "*"};
        for (String key : inside) {
            Bench.holds("header :contains \"a\" \"" + key + "\"", "a: hello\r\n", true);
        }
        for (String key : outside) {
            Bench.holds("header :contains \"a\" \"" + key + "\"", "a: hello\r\n", false);
        }
        Bench.holds("header :contains \"a\" \"\"", "a:\r\n", true);
        Bench.holds("header :contains \"a\" \"x\"", "a:\r\n", false);
        Bench.holds("header :contains \"a\" \"aab\"", "a: aaab\r\n", true);
        Bench.holds("header :contains \"a\" \"ab\"", "a: xa\r\nb: b\r\n", false);
        Bench.holds("header :contains :comparator \"i;octet\" \"a\" \"E\"", "a: hello\r\n", false);
        Bench.holds("header :contains \"none\" \"\"", "a: hello\r\n", false);
    }

    private static void matches(String key, String value, boolean due) {
        Bench.holds("header :matches \"a\" " + Bench.quoted(key), "a: " + value + "\r\n", due);
    }

    private static void patterns() {
        Probe.sentence(":matches the whole is the key, where * stands for any bytes, ? for one");
        matches("", "", true);
        matches("", "x", false);
        matches("*", "", true);
        matches("**", "", true);
        matches("?", "", false);
        matches("x", "", false);
        matches("?", "x", true);
        matches("?", "xy", false);
        matches("??", "x", false);
        matches("*?", "x", true);
        matches("?*", "x", true);
        matches("*?*", "", false);
        matches("x*", "x", true);
        matches("*x", "x", true);
        matches("x*x", "x", false);
        matches("x*x", "xx", true);
        matches("x", "X", true);
        matches("a?c", "a\u00ffc", true);
        matches("a?c", "a*c", true);
        matches("a*c", "a?*c", true);
        Probe p = new Probe();
        p.activate(0, "if header :matches \"A\" \"ab\"{discard;}");
        p.greet();
        p.send("<>", "anna@here", "a: xaab\r\n");
        Probe.due("without a * no part of it", p.call().count(0), 1);
    }

    private static void escapedPatterns() {
        Probe.sentence("\\ for the next one itself (at the end for itself)");
        matches("\\*", "*", true);
        matches("\\*", "x", false);
        matches("\\?", "?", true);
        matches("\\?", "x", false);
        matches("\\\\", "\\", true);
        matches("\\\\", "\\\\", false);
        matches("\\x", "x", true);
        matches("\\x", "\\x", false);
        matches("\\", "\\", true);
        matches("\\", "", false);
        matches("\\", "\\\\", false);
        matches("x\\", "x\\", true);
        matches("*\\", "xy\\", true);
        matches("*\\", "xy", false);
        matches("\\\\\\", "\\\\", true);
        matches("\\\\*", "\\xyz", true);
        matches("*\\**", "x*y", true);
        matches("*\\**", "xy", false);
        matches("\\X", "x", true);
    }

    private static void starsInPatterns() {
        Probe.sentence("* stands for any bytes: wherever they begin and end");
        matches("aa*abc", "aabc", false);
        matches("aa*abc", "aaabc", true);
        matches("*ab", "axb", false);
        matches("*ab", "aab", true);
        matches("*ab", "abab", true);
        matches("*ab", "aba", false);
        matches("*a*b*c*", "xaybzcw", true);
        matches("*a*b*c*", "xcybzaw", false);
        matches("a*a*a", "aa", false);
        matches("a*a*a", "aaa", true);
        matches("*abc*abd", "abcabcabd", true);
        matches("*abc*abd", "abdabcab", false);
        matches("*aaab", "a".repeat(50) + "b", true);
        matches("*aaac*b", "a".repeat(50) + "b", false);
        matches("*?b?*", "ab", false);
        matches("*?b?*", "abc", true);
    }

    private static void numbers() {
        Probe.sentence("i;ascii-numeric: a value is its number of leading digits (as much as there are), without any greater than all numbers (and the same as another one without)");
        // A value, a key, and how the value's number stands to the key's.
        String[][] rows = {{"0", "0", "="}, {"0", "000", "="}, {"007x", "7", "="}, {"7", "007y", "="}, {"12", "13", "<"}, {"13", "12", ">"}, {"19", "21", "<"}, {"21", "19", ">"},
            {"9", "10", "<"}, {"10", "9", ">"}, {"0010", "9", ">"}, {"4294967296", "0", ">"}, {"4294967297", "1", ">"}, {"18446744073709551616", "0", ">"}, {"0", "18446744073709551616", "<"},
            {"2147483648", "2147483647", ">"}, {"9223372036854775808", "9223372036854775807", ">"}, {"9".repeat(100), "9".repeat(99), ">"}, {"1" + "0".repeat(99), "9".repeat(99), ">"},
            {"123456789012345678901234567890", "123456789012345678901234567891", "<"}, {"x", "x", "="}, {"x", "", "="}, {"", "y1", "="}, {"x", "9".repeat(150), ">"}, {"9".repeat(150), "x", "<"},
            {"-1", "1", ">"}, {"-1", "-2", "="}, {"+1", "x", "="}, {"1.5", "1", "="}, {"0", "", "<"}, {"", "0", ">"}, {"1 2", "1", "="}, {"\u00b2", "2", ">"}, {"/", ":", "="}};
        for (String[] row : rows) {
            String message = "a: " + row[0] + "\r\n";
            Bench.holds(NUMERIC + "\"a\" \"" + row[1] + "\"", message, row[2].equals("="));
            for (String relation : RELATIONS) {
                Bench.holds(NUMERIC + ":value \"" + relation + "\" \"a\" \"" + row[1] + "\"", message, stands(relation, row[2]));
            }
        }
        Bench.holds(NUMERIC + ":contains \"a\" \"\"", "a: 1\r\n", false);
        Bench.holds(NUMERIC + ":contains \"a\" \"1\"", "a: 1\r\n", false);
        Bench.holds(NUMERIC + ":matches \"a\" \"*\"", "a: 1\r\n", false);
        Bench.holds(NUMERIC + ":matches \"a\" \"1\"", "a: 1\r\n", false);
        Bench.holds(NUMERIC + "\"none\" \"x\"", "a: x\r\n", false);
    }

    private static boolean stands(String relation, String order) {
        switch (relation) {
            case "gt": return order.equals(">");
            case "ge": return !order.equals("<");
            case "lt": return order.equals("<");
            case "le": return !order.equals(">");
            case "eq": return order.equals("=");
            default: return !order.equals("=");
        }
    }

    private static void ordered() {
        Probe.sentence(":value: it stands so (gt ..) to the key: by bytes (a .. z as A .. Z first in casemap), the shorter first");
        String[][] rows = {{"", "", "="}, {"", "a", "<"}, {"a", "", ">"}, {"a", "A", "="}, {"a", "b", "<"}, {"B", "a", ">"}, {"ab", "a", ">"}, {"a", "aa", "<"}, {"b", "aa", ">"},
            {"_", "a", ">"}, {"_", "A", ">"}, {"[", "a", ">"}, {"@", "a", "<"}, {"{", "z", ">"}, {"`", "a", ">"}, {"\u0080", "z", ">"}, {"\u00ff", "\u0080", ">"}, {"\u007f", "\u0080", "<"},
            {"10", "9", "<"}};
        String[][] octets = {{"a", "A", ">"}, {"A", "a", "<"}, {"_", "a", "<"}, {"_", "A", ">"}, {"`", "a", "<"}, {"Z", "a", "<"}, {"\u00ff", "a", ">"}, {"", "", "="}, {"ab", "a", ">"}, {"a", "a", "="}};
        for (String relation : RELATIONS) {
            for (String[] row : rows) {
                Bench.holds("header :value \"" + relation + "\" \"x\" \"" + row[1] + "\"", "x: " + row[0] + "\r\n", stands(relation, row[2]));
            }
            for (String[] row : octets) {
                Bench.holds("header :comparator \"i;octet\" :value \"" + relation + "\" \"x\" \"" + row[1] + "\"", "x: " + row[0] + "\r\n", stands(relation, row[2]));
            }
        }
        Bench.holds("header :value \"gt\" \"x\" [\"5\",\"1\"]", "x: 0\r\nx: 2\r\n", true);
        Bench.holds("header :value \"ne\" \"none\" \"1\"", "x: 0\r\n", false);
    }

    private static void counted() {
        Probe.sentence(":count: how many values (addresses, flags) there are in all stands so to the key's number (numeric; no digits: greater than all)");
        String two = "2: x\r\n2: y\r\n";
        String[][] rows = {{"0", ">"}, {"1", ">"}, {"2", "="}, {"002x", "="}, {"3", "<"}, {"", "<"}, {"x", "<"}, {"4294967298", "<"}, {"18446744073709551618", "<"}};
        for (String relation : RELATIONS) {
            for (String[] row : rows) {
                Bench.holds("header :count \"" + relation + "\" \"2\" \"" + row[0] + "\"", two, stands(relation, row[1]));
            }
        }
        Bench.holds("header :count \"eq\" \"2\" [\"5\",\"2\"]", two, true);
        Bench.holds("header :count \"eq\" \"2\" \"5\"", two, false);
        Bench.holds("anyof(header :count \"eq\" \"2\" \"5\",header \"2\" \"zz\")", two, false);
        Bench.holds("header :count \"eq\" [\"2\",\"2\",\"x\"] \"2\"", two, true);
        Bench.holds("header :count \"eq\" \"none\" \"0\"", two, true);
        Bench.holds("header :count \"ge\" \"none\" \"0\"", two, true);
        Bench.holds("header :count \"gt\" \"none\" \"0\"", two, false);
        Bench.holds("header :count \"eq\" :comparator \"i;octet\" \"2\" \"02\"", two, true);
        Bench.holds("address :count \"eq\" [\"a\",\"b\"] \"3\"", "a: a@b, x\r\nb: c@d, a@b\r\n", true);
        Bench.holds("address :count \"eq\" \"a\" \"0\"", "a: x\r\n", true);
    }

    private static void asFarAsNeeded() {
        Probe.sentence("a test's parts from the left, as far as needed");
        String[][] rows = {{"allof(true)", "1"}, {"allof(false)", "0"}, {"anyof(true)", "1"}, {"anyof(false)", "0"}, {"allof(true,true)", "1"}, {"allof(true,false)", "0"}, {"allof(false,true)", "0"},
            {"anyof(true,false)", "1"}, {"anyof(false,true)", "1"}, {"anyof(false,false)", "0"}, {"not true", "0"}, {"not not true", "1"}, {"not allof(true,false)", "1"},
            {"not anyof(false,false)", "1"}, {"allof(anyof(true,false),true)", "1"}, {"allof(anyof(false,false),true)", "0"}, {"anyof(allof(false,true),true)", "1"},
            {"anyof(allof(true,false),false)", "0"}, {"allof(not false,not anyof(false),true)", "1"}, {"allof(true,anyof(allof(true,not false),false),not not true)", "1"},
            {"anyof(not not not true,allof(not false,anyof(false,not true)))", "0"}};
        for (String[] row : rows) {
            Bench.holds(row[0], "", row[1].equals("1"));
        }
    }
}
