/** Paths and addresses: the edges of their lengths, dots and bytes, in MAIL, in redirect and in the value of a field. */
public final class PathEdgesTest {
    private static final String LOCAL_SIGNS = "!#$%&'*+-/=?^_`{|}~.";
    private static final String SENDER = "250 2.1.0 ok\r\n";
    private static final String SYNTAX = "501 5.5.4 syntax\r\n";
    private static final String OK = "250 2.0.0 ok\r\n";

    public static void main(String[] args) {
        localBytes();
        domainBytes();
        lengths();
        dots();
        inScriptsAndValues();
        Probe.end("PathEdgesTest");
    }

    private static boolean isPlain(int b) {
        return b >= 'A' && b <= 'Z' || b >= 'a' && b <= 'z' || b >= '0' && b <= '9';
    }

    private static void localBytes() {
        Probe.sentence("local: .. of A .. Z a .. z 0 .. 9 ! # $ % & ' * + - / = ? ^ _ ` { | } ~ and .");
        for (int b = 0; b < 256; b++) {
            sender("a" + (char) b + "c@d", isPlain(b) || LOCAL_SIGNS.indexOf(b) >= 0);
        }
    }

    private static void domainBytes() {
        Probe.sentence("domain: .. of A .. Z a .. z 0 .. 9 - and .");
        for (int b = 0; b < 256; b++) {
            sender("a@b" + (char) b + "d", isPlain(b) || b == '-' || b == '.');
        }
    }

    private static void sender(String address, boolean taken) {
        Probe p = Bench.probe(40);
        Probe.due("<" + address + ">", p.mail("MAIL FROM:<" + address + ">\r\nRSET\r\n"), (taken ? SENDER : SYNTAX) + OK);
    }

    private static String[] wellFormed() {
        return new String[] {"a@b", "x".repeat(40) + "@b", "a@" + "y".repeat(60), "x".repeat(40) + "@" + "y".repeat(60), "a." + "x".repeat(38) + "@b." + "y".repeat(58),
            "a.b@c", "a.b.c@d.e.f", "1@2", "-@-", "a@b-", "a@-b"};
    }

    private static String[] wrongLengths() {
        return new String[] {"", "a", "@", "a@", "@b", "x".repeat(41) + "@b", "a@" + "y".repeat(61), "a." + "x".repeat(39) + "@b", "a@b." + "y".repeat(59), "a@b@c", "a@@b"};
    }

    private static String[] wrongDots() {
        return new String[] {".@b", ".a@b", "a.@b", "a..b@c", "..a@b", "a@.", "a@.b", "a@b.", "a@b..c", "a@b.c.", "a...b@c"};
    }

    private static void lengths() {
        Probe.sentence("local: 1 .. 40; domain: 1 .. 60");
        for (String address : wellFormed()) {
            sender(address, true);
        }
        for (String address : wrongLengths()) {
            if (!address.isEmpty()) {
                sender(address, false);
            }
        }
        Probe.due("RCPT of an empty path", Bench.probe(40).mail("MAIL FROM:<>\r\nRCPT TO:<>\r\nRSET\r\n"), SENDER + SYNTAX + OK);
    }

    private static void dots() {
        Probe.sentence(". (not first, last, or two together), likewise");
        for (String address : wrongDots()) {
            sender(address, false);
        }
    }

    private static void inScriptsAndValues() {
        Probe.sentence("behind redirect no ADDRESS (is a fault); it is an address if it has the form of ADDRESS above");
        for (String address : wellFormed()) {
            Bench.fault("redirect " + Bench.quoted(address) + ";", 0);
            Bench.holds("address \"to\" " + Bench.quoted(address), "To: " + address + "\r\n", true);
        }
        String[][] wrong = {wrongLengths(), wrongDots()};
        for (String[] addresses : wrong) {
            for (String address : addresses) {
                Bench.fault("\nredirect " + Bench.quoted(address) + ";", 2);
                Bench.holds("address :count \"eq\" \"to\" \"0\"", "To: " + address + "\r\n", true);
            }
        }
    }
}
