/** The fields of messages, and the addresses in them, as scripts see them. */
public final class FieldsTest {
    private static Probe p;
    private static int sent;

    public static void main(String[] args) {
        fields();
        values();
        addresses();
        Probe.end("FieldsTest");
    }

    /** Whether a test of a script holds for a message. */
    private static void due(String test, String message, boolean holds) {
        if (p == null || sent > 8) {
            p = new Probe();
            p.greet();
            sent = 0;
        }
        p.activate(0, "require [\"fileinto\",\"relational\"];if " + test + " {fileinto \"Yes\";}");
        int before = p.call().messages(0, 1);
        p.send("<>", "anna@here", message);
        Probe.due(test + " of " + message, p.call().messages(0, 1) > before, holds);
        sent++;
    }

    private static void fields() {
        String name60 = "n23456789012345678901234567890123456789012345678901234567890";
        String message = "A: 1\r\nb \t : 2\r\n" + name60 + ":3\r\n!~@\": 4\r\na: 5\r\n\r\nC: 6\r\n";
        due("exists [\"a\",\"B\",\"" + name60 + "\",\"!~@\\\"\"]", message, true);
        due("exists \"c\"", message, false);
        due("exists [\"a\",\"c\"]", message, false);
        due("header \"a\" [\"0\",\"5\"]", message, true);
        due("header [\"x\",\"B\"] \"2\"", message, true);
        due("exists \"x\"", "", false);
        due("exists \"x\"", "\r\nx: 1\r\n", false);
        due("exists \"a\"", " x\r\na: 1\r\n", false);
        due("exists \"b\"", "a: 1\r\nno field\r\nb: 1\r\n", false);
        due("exists \"a\"", "a: 1\r\nno field\r\nb: 1\r\n", true);
        due("exists \"b\"", "a: 1\r\n: 2\r\nb: 1\r\n", false);
        due("exists \"b\"", "a: 1\r\nx" + name60 + ": 2\r\nb: 1\r\n", false);
        due("exists \"b\"", "a: 1\r\nx y: 2\r\nb: 1\r\n", false);
        due("exists \"b\"", "a: 1\r\n\u00e9: 2\r\nb: 1\r\n", false);
        due("exists \"b\"", "a: 1\r\nx\r: 2\r\nb: 1\r\n", false);
        due("exists \"b\"", "a: 1\r\nx\u007f: 2\r\nb: 1\r\n", false);
        due("exists \"b\"", "a: 1\r\n  \t\r\nb: 1\r\n", true);
    }

    private static void values() {
        due("header \"s\" \"one  two\tthree\"", "S:\t one \r\n two\r\n\tthree \t\r\n \r\n", true);
        due("header \"s\" \"\"", "s:\r\n", true);
        due("header \"s\" \"a:b\"", "s:a:b\r\n", true);
        due("header \"s\" \"a\rb\nc\"", "s: a\rb\nc\r\n", true);
        due("header :count \"eq\" [\"a\",\"b\",\"A\"] \"3\"", "a: 1\r\nb: 2\r\nc: 3\r\nA: 4\r\n", true);
        due("header :contains \"s\" \"\"", "x: 1\r\n", false);
    }

    private static void addresses() {
        String[][] rows = {
            {"a@b", "a@b"}, {"a@b, c@d ,e@f", "a@b c@d e@f"}, {"Joe <a@b>, <c@d> (x)", "a@b c@d"}, {"\"x, y\" <a@b>, c@d", "a@b c@d"},
            {"(x, y) a@b", "a@b"}, {"(x (y, z) w, v) a@b, c@d", "a@b c@d"}, {"\"a\\\", b\" <c@d>, e@f", "c@d e@f"}, {"(a\\), b@c) d@e", "d@e"},
            {"\"(\" <a@b>, c@d)", "a@b"}, {"(\" ) a@b, c@d", "a@b c@d"}, {"a@b (not closed, c@d", "a@b"}, {"a@b \"not closed, c@d", ""},
            {"<a@b> \"not closed, c@d", "a@b"}, {"<a@b, c@d", ""}, {"<a,b@c>, d@e", "d@e"}, {"<a@b> <c@d>, e@f", "a@b e@f"}, {"< a @\tb >", "a@b"},
            {"a @ b . c", "a@b.c"}, {"<a(x)@b>", "a@b"}, {"a(x)@(y)b", "a@b"}, {"\"a\"@b", ""}, {"<\"a b\"@c>, d@e", "d@e"}, {"\"<\" <a@b>", "a@b"},
            {"(<) a@b", "a@b"}, {"a@b>", ""}, {"x> <a@b>", "a@b"}, {",,a@b,,", "a@b"}, {"", ""}, {"a@@b, a@b@c, @b, a@, a..b@c", ""}, {"<>, a@b", "a@b"},
            {"group: a@b, c@d;", ""}, {"<a@b> <c@d, e@f>", "a@b"}, {"a@b\\, c@d", "c@d"}, {"<\"x>y\">, a@b", "a@b"}, {"a@b(x\\", "a@b"},
            {"() a@b, \"\" <c@d>", "a@b c@d"}, {"(()) a@b, (\\(), c@d", "a@b c@d"}};
        for (String[] row : rows) {
            String[] found = row[1].isEmpty() ? new String[0] : row[1].split(" ");
            StringBuilder test = new StringBuilder("allof(address :count \"eq\" \"to\" \"" + found.length + "\"");
            for (String address : found) {
                test.append(",address \"to\" \"").append(address).append("\"");
            }
            due(test + ")", "To: " + row[0] + "\r\n", true);
        }
        due("address :count \"eq\" [\"to\",\"cc\"] \"3\"", "To: a@b\r\nCc: c@d, e\r\nbcc: f@g\r\nTO: a@b\r\n", true);
    }
}
