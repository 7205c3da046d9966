/** Messages: the edges of a header, its fields, their names and values. */
public final class HeaderEdgesTest {
    public static void main(String[] args) {
        firstEmptyLine();
        nameBytes();
        nameLengths();
        behindNames();
        values();
        bothEnds();
        continued();
        neither();
        letters();
        manyFields();
        Probe.end("HeaderEdgesTest");
    }

    private static void firstEmptyLine() {
        Probe.sentence("A message's HEADER are its lines up to the first empty one");
        Bench.holds("exists \"a\"", "", false);
        Bench.holds("exists \"a\"", "\r\n", false);
        Bench.holds("exists \"a\"", "\r\na: 1\r\n", false);
        Bench.holds("exists \"a\"", "a: 1\r\n", true);
        Bench.holds("exists \"a\"", "a: 1\r\n\r\n", true);
        Bench.holds("exists [\"a\",\"b\"]", "a: 1\r\nb: 1\r\n\r\nc: 1\r\n", true);
        Bench.holds("exists \"c\"", "a: 1\r\nb: 1\r\n\r\nc: 1\r\n", false);
        Bench.holds("header \"a\" \"1\"", "a: 1\r\n\r\n 2\r\n", true);
        Bench.holds("exists \"b\"", "a: 1\r\n \r\nb: 1\r\n", true);
        Bench.holds("exists \"b\"", "a: 1\r\n\t\r\nb: 1\r\n", true);
        Bench.holds("exists \"b\"", "a: 1\r\n\r\r\nb: 1\r\n", false);
    }

    private static void nameBytes() {
        Probe.sentence("a name (.. of 33 .. 126 but :)");
        int sent = 0;
        Probe p = null;
        for (int b = 0; b < 256; b++) {
            if (sent++ % 60 == 0) {
                p = new Probe();
                p.activate(0, "if exists \"next\"{discard;}");
                p.greet();
            }
            int before = p.call().count(0);
            p.post("MAIL FROM:<>\r\nRCPT TO:<anna@here>\r\nDATA\r\na" + (char) b + "c: 1\r\nnext: 2\r\n.\r\n");
            // With : in it the name is a, and the line is a field still.
            Probe.due("byte " + b, p.call().count(0) == before, b >= 33 && b <= 126);
        }
        Bench.holds("header \"a\" \"c: 1\"", "a:c: 1\r\n", true);
        Bench.holds("exists \"!~\"", "!~: 1\r\n", true);
        Bench.holds("exists [\"\\\"\",\"\\\\\"]", "\": 1\r\n\\: 1\r\n", true);
    }

    private static void nameLengths() {
        Probe.sentence("a name (1 .. 60 ..)");
        String sixty = "n".repeat(60);
        Bench.holds("exists \"n\"", "n: 1\r\n", true);
        Bench.holds("exists \"" + sixty + "\"", sixty + ": 1\r\n", true);
        Bench.holds("exists \"b\"", sixty + ": 1\r\nb: 2\r\n", true);
        Bench.holds("exists \"" + sixty + "n\"", sixty + "n: 1\r\nb: 2\r\n", false);
        Bench.holds("exists \"b\"", sixty + "n: 1\r\nb: 2\r\n", false);
        Bench.holds("exists \"b\"", ": 1\r\nb: 2\r\n", false);
        Bench.holds("exists \"\"", ": 1\r\n", false);
        Bench.holds("exists \"" + sixty + "\"", sixty + " \t \t: 1\r\n", true);
    }

    private static void behindNames() {
        Probe.sentence("any blanks and tabs, :");
        Bench.holds("header \"a\" \"1\"", "a:1\r\n", true);
        Bench.holds("header \"a\" \"1\"", "a :1\r\n", true);
        Bench.holds("header \"a\" \"1\"", "a\t:1\r\n", true);
        Bench.holds("header \"a\" \"1\"", "a" + " \t".repeat(100) + ":1\r\n", true);
        Bench.holds("exists \"a\"", "a\r\n", false);
        Bench.holds("exists \"a\"", "a \r\n", false);
        Bench.holds("exists \"a\"", "a\r\n:1\r\n", false);
        Bench.holds("exists \"a\"", "a b:1\r\n", false);
        Bench.holds("exists \"a\"", "a\u00a0:1\r\n", false);
    }

    private static void values() {
        Probe.sentence("then the value: the rest");
        Bench.holds("header \"a\" \"\"", "a:\r\n", true);
        Bench.holds("header :count \"eq\" \"a\" \"1\"", "a:\r\n", true);
        Bench.holds("header \"a\" \":\"", "a::\r\n", true);
        Bench.holds("header \"a\" \"\u0000\u0001\u007f\u0080\u00ff\"", "a:\u0000\u0001\u007f\u0080\u00ff\r\n", true);
        Bench.holds("header \"a\" \"1\r2\n3\n\r4\"", "a:1\r2\n3\n\r4\r\n", true);
        String longest = "x".repeat(600);
        Bench.holds("header :matches \"a\" \"" + "?".repeat(199) + "*\"", "a:" + longest + "\r\n", true);
        Bench.holds("allof(header :contains \"a\" \"x\",header :matches \"a\" \"*yz\")", "a:" + longest + "yz\r\n", true);
    }

    private static void bothEnds() {
        Probe.sentence("blanks and tabs at both ends are left out");
        Bench.holds("header \"a\" \"\"", "a: \t \r\n", true);
        Bench.holds("header \"a\" \"1\"", "a: \t 1 \t \r\n", true);
        Bench.holds("header \"a\" \"1 \t 2\"", "a:1 \t 2\r\n", true);
        Bench.holds("header \"a\" \"\u000b1\u000c\"", "a: \u000b1\u000c \r\n", true);
        Bench.holds("header \"a\" \"\r1\r\"", "a: \r1\r\r\n", true);
        Bench.holds("header \"a\" \"\u00a01\u00a0\"", "a:\u00a01\u00a0\r\n", true);
        Bench.holds("header \"a\" \"\"", "a: \r\n \r\n\t\r\n", true);
        Bench.holds("header \"a\" \"1\"", "a:\r\n 1\r\n  \r\n", true);
    }

    private static void continued() {
        Probe.sentence("and all lines behind it that begin with a blank or tab, put together without CRLF");
        Bench.holds("header \"a\" \"1 2\"", "a:1\r\n 2\r\n", true);
        Bench.holds("header \"a\" \"1\t2  3\"", "a:1\r\n\t2\r\n  3\r\n", true);
        Bench.holds("header \"a\" \"1 b:2\"", "a:1\r\n b:2\r\n", true);
        Bench.holds("exists \"b\"", "a:1\r\n b:2\r\n", false);
        Bench.holds("header \"a\" \"1 2\"", "a:1\r\n 2\r\nb:3\r\n 4\r\n", true);
        Bench.holds("header \"b\" \"3 4\"", "a:1\r\n 2\r\nb:3\r\n 4\r\n", true);
        Bench.holds("header :count \"eq\" \"a\" \"1\"", "a:1\r\n 2\r\n 3\r\n", true);
        Bench.holds("header \"a\" \"1   2\"", "a:1\r\n \r\n \r\n 2\r\n", true);
        Bench.holds("exists \"b\"", " 1\r\nb:2\r\n", false);
        Bench.holds("exists \"b\"", "\t\r\nb:2\r\n", false);
    }

    private static void neither() {
        Probe.sentence("Lines of the header that are neither, end it, too");
        String[] lines = {"x", "x y: 1", ":", ": 1", "\u00e9: 1", "x\u007f: 1", "\r", "\n: 1", "x", "(", "\"a b\": 1"};
        for (String line : lines) {
            Bench.holds("exists \"a\"", "a: 1\r\n" + line + "\r\nb: 2\r\n", true);
            Bench.holds("exists \"b\"", "a: 1\r\n" + line + "\r\nb: 2\r\n", false);
            Bench.holds("header \"a\" \"1\"", "a: 1\r\n" + line + "\r\n 2\r\n", true);
        }
    }

    private static void letters() {
        Probe.sentence("Names are compared without case (A .. Z like a .. z, no others)");
        Bench.holds("exists [\"AZ\",\"az\",\"aZ\"]", "Az: 1\r\n", true);
        String pairs = "@`[{\\|]}^~";
        for (int i = 0; i < pairs.length(); i += 2) {
            String one = pairs.substring(i, i + 1);
            String other = pairs.substring(i + 1, i + 2);
            Bench.holds("exists " + Bench.quoted(one), one + ": 1\r\n", true);
            Bench.holds("exists " + Bench.quoted(one), other + ": 1\r\n", false);
            Bench.holds("exists " + Bench.quoted(other), one + ": 1\r\n", false);
            Bench.holds("header \"a\" " + Bench.quoted(one), "a: " + other + "\r\n", false);
            Bench.holds("header \"a\" " + Bench.quoted(other), "a: " + one + "\r\n", false);
        }
        Bench.holds("header \"a\" \"\u00c1\"", "a: \u00e1\r\n", false);
        Bench.holds("header :contains \"a\" \"\u00e1\"", "a: \u00c1\r\n", false);
        Bench.holds("header \"a\" \"az\"", "a: AZ\r\n", true);
        Bench.holds("header \"a\" \"AZ\"", "a: az\r\n", true);
    }

    private static void manyFields() {
        Probe.sentence("A FIELD: as many as a message has room for");
        Probe p = new Probe();
        p.activate(0, Bench.ALL + "if allof(header :count \"eq\" \"a\" \"1000\",header :count \"gt\" \"a\" \"999\",header :count \"lt\" \"a\" \"1001\"){discard;}");
        p.greet();
        p.send("<>", "anna@here", "a:\r\n".repeat(1000));
        Probe.due("1000 of them", p.call().count(0), 0);
        Probe one = new Probe();
        one.activate(0, Bench.ALL + "if address :count \"eq\" \"a\" \"999\"{discard;}");
        one.greet();
        one.send("<>", "anna@here", "a:" + "a@b,".repeat(998) + "a@b\r\n");
        Probe.due("999 addresses", one.call().count(0), 0);
        Bench.holds("header :count \"eq\" \"a\" \"110\"", "a:\r\n".repeat(110), true);
        Bench.holds("header :count \"gt\" \"a\" \"109\"", "a:\r\n".repeat(110), true);
        Bench.holds("header :count \"eq\" \"a\" \"99\"", "a:\r\n".repeat(99), true);
    }
}
