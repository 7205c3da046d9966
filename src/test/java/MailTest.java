/** Promise 4: mail, and the session of delivery. */
public final class MailTest {
    private static final String HELLO = "250-here\r\n250-SIZE 4000\r\n250 8BITMIME\r\n";
    private static final String ORDER = "503 5.5.1 order\r\n";
    private static final String SYNTAX = "501 5.5.4 syntax\r\n";
    private static final String UNKNOWN = "500 5.5.2 unknown\r\n";
    private static final String OK = "250 2.0.0 ok\r\n";
    private static final String SENDER = "250 2.1.0 ok\r\n";
    private static final String RECIPIENT = "250 2.1.5 ok\r\n";

    public static void main(String[] args) {
        refusals();
        beforeHello();
        hello();
        lines();
        senders();
        paths();
        recipients();
        messages();
        tooBig();
        full();
        quit();
        powerGoes();
        Probe.end("MailTest");
    }

    private static Probe greeted() {
        Probe p = new Probe();
        p.greet();
        return p;
    }

    private static void refusals() {
        Probe p = new Probe();
        p.feed("NOOP\r\n");
        Probe.due("no session", p.call().mail(6), -1);
        Probe.due("tape stays", p.call().count(5), 20);
        p.call().connect();
        Probe.due("below 0", p.call().mail(-1), -1);
        Probe.due("more than there are", p.call().mail(21), -1);
        Probe.due("tape stays again", p.call().count(5), 20);
        Probe.due("the first bytes", p.call().mail(6), 6);
        Probe.due("the whole tape is empty", p.call().count(5), 0);
        Probe.due("one answer", p.replies(4), "220 here LMTP\r\n" + OK);
        Probe.due("none of an empty tape", p.call().mail(0), 0);
        Probe.due("one of an empty tape", p.call().mail(1), -1);
        p.feed("NOOP\r\n");
        Probe.due("none of a tape", p.call().mail(0), 0);
        Probe.due("which is empty then", p.call().count(5), 0);
    }

    private static void beforeHello() {
        Probe p = new Probe();
        p.call().connect();
        Probe.due("before LHLO", p.mail("MAIL x\r\nRCPT\r\nDATA x\r\nNOOP\r\nRSET\r\nFOO\r\nNOOP x\r\nLHLO\r\nmail FROM:<a@b>\r\n"),
            "220 here LMTP\r\n" + ORDER + ORDER + ORDER + OK + OK + UNKNOWN + SYNTAX + SYNTAX + ORDER);
        Probe.due("QUIT before LHLO", p.mail("QUIT\r\n"), "221 2.0.0 bye\r\n");
    }

    private static void hello() {
        Probe p = greeted();
        String sixty = "a123456789b123456789c123456789d123456789e123456789f123456789";
        Probe.due("domains", p.mail("lhlo -\r\nLHLO a.b-c.D9\r\nLHLO " + sixty + "\r\n"), HELLO + HELLO + HELLO);
        Probe.due("no domains", p.mail("LHLO \r\nLHLO .a\r\nLHLO a.\r\nLHLO a..b\r\nLHLO a_b\r\nLHLO  a\r\nLHLO a \r\nLHLO "
            + sixty + "g\r\n"), SYNTAX.repeat(8));
        Probe.due("LHLO forgets", p.mail("MAIL FROM:<a@b>\r\nRCPT TO:<anna@here>\r\nLHLO x\r\nDATA\r\nMAIL FROM:<>\r\n"),
            SENDER + RECIPIENT + HELLO + ORDER + SENDER);
        Probe.due("a wrong LHLO forgets nothing", p.mail("LHLO\r\nRCPT TO:<anna@here>\r\n"), SYNTAX + RECIPIENT);
    }

    private static void lines() {
        Probe p = greeted();
        String long495 = "x".repeat(495);
        Probe.due("500 bytes", p.mail("NOOP " + long495 + "\r\n"), SYNTAX);
        Probe.due("501 bytes", p.mail("NOOP " + long495 + "x\r\n"), "500 5.5.2 too long\r\n");
        Probe.due("501 bytes, the last one a 13", p.mail("NOOP " + long495 + "\r\r\n"), "500 5.5.2 too long\r\n");
        Probe.due("in pieces", p.mail("NO") + p.mail("OP\r") + p.mail("\n"), OK);
        Probe.due("13 and 10 alone", p.mail("NOOP\nNOOP\r\n" + "NO\rOP\r\n" + "NOOP\r\r\n" + "NOOP\n\r\n"), UNKNOWN.repeat(4));
        Probe.due("a 10 behind a message", p.mail("MAIL FROM:<>\r\nRCPT TO:<dan@here>\r\nDATA\r\n.\r\n\nNOOP\r\n"),
            SENDER + RECIPIENT + "354 go\r\n250 2.0.0 <dan@here>\r\n" + UNKNOWN);
        Probe.due("words", p.mail("\r\n NOOP\r\nNOOPS\r\nNOO\r\nNOOP\t\r\nnOoP\r\nNOOP \r\nDATA \r\nrset x\r\n"),
            UNKNOWN.repeat(5) + OK + SYNTAX.repeat(3));
        p.post("NOOP\r");
        p.call().connect();
        Probe.due("a 10 at the beginning", p.mail("\nNOOP\r\n"), "220 here LMTP\r\n" + UNKNOWN);
    }

    private static void senders() {
        Probe p = greeted();
        Probe.due("syntax", p.mail("MAIL\r\nMAIL FROM:\r\nMAIL FROM: <a@b>\r\nMAIL  FROM:<a@b>\r\nMAIL FROM:<a@b\r\nMAIL FROM:a@b\r\n"
            + "MAIL TO:<a@b>\r\nMAIL FROM:<a@b>x\r\nMAIL FROM:<a@b> \r\n"), SYNTAX.repeat(9));
        Probe.due("options that are none", p.mail("MAIL FROM:<> SIZE=\r\nMAIL FROM:<> SIZE=1234567890\r\nMAIL FROM:<> SIZE=1x\r\n"
            + "MAIL FROM:<>  SIZE=1\r\nMAIL FROM:<> BODY=7BIT\r\nMAIL FROM:<> SIZE=1 \r\nMAIL FROM:<>SIZE=1\r\n"), SYNTAX.repeat(7));
        Probe.due("too big", p.mail("MAIL FROM:<a@b> SIZE=4001\r\nMAIL FROM:<a@b> SIZE=999999999 SIZE=1\r\n"
            + "RCPT TO:<anna@here>\r\n"), "552 5.3.4 too big\r\n".repeat(2) + ORDER);
        Probe.due("options", p.mail("MAIL from:<a@b> size=4000 Body=8bitMIME SIZE=000000001\r\nMAIL FROM:<c@d> SIZE=5000\r\n"
            + "MAIL FROM\r\nRSET\r\nMAIL FROM:<>\r\nMAIL FROM:<>\r\n"), SENDER + ORDER + SYNTAX + OK + SENDER + ORDER);
    }

    private static void paths() {
        Probe p = greeted();
        String forty = "a123456789b123456789c123456789d123456789";
        String sixty = forty + "e123456789f123456789";
        String signs = "Az09!#$%&'*+-/=?^_`{|}~";
        String[] good = {forty + "@" + sixty, signs + "@b", "a.b.c@d.e-.F9", "-@-", "AZaz09@AZaz09"};
        for (String address : good) {
            Probe.due(address, p.mail("MAIL FROM:<" + address + ">\r\nRSET\r\n"), SENDER + OK);
        }
        String[] bad = {forty + "x@b", "a@" + sixty + "x", "@b", "a@", "a", ".a@b", "a.@b", "a..b@c", "a@.b", "a@b.", "a@b..c", "a@b@c",
            "a b@c", "a@b c", "a@b_c", "\"a\"@b", "a,b@c", "<a@b>", "a\u00e9@b"};
        StringBuilder all = new StringBuilder();
        for (String address : bad) {
            all.append("MAIL FROM:<").append(address).append(">\r\n");
        }
        Probe.due("no addresses", p.mail(all.toString()), SYNTAX.repeat(bad.length));
    }

    private static void recipients() {
        Probe p = greeted();
        Probe.due("order", p.mail("RCPT TO:<anna@here>\r\nRCPT TO:<>\r\nDATA\r\n"), ORDER + SYNTAX + ORDER);
        Probe.due("syntax and none such", p.mail("MAIL FROM:<>\r\nRCPT TO:<>\r\nRCPT TO: <anna@here>\r\nRCPT TO:<anna@here> SIZE=1\r\n"
            + "RCPT TO:<anna@there>\r\nRCPT TO:<eve@here>\r\nDATA\r\n"), SENDER + SYNTAX.repeat(3) + "550 5.1.1 no such\r\n".repeat(2) + ORDER);
        Probe.due("four", p.mail("rcpt to:<ANNA@here>\r\nRCPT TO:<anna@Here>\r\nRCPT TO:<Cleo@here>\r\nRCPT TO:<dan@here>\r\n"
            + "RCPT TO:<ben@here>\r\nRCPT TO:<eve@here>\r\n"), RECIPIENT.repeat(4) + "452 4.5.3 too many\r\n550 5.1.1 no such\r\n");
        Probe.due("a line for each, as it was told", p.mail("DATA\r\nx\r\n.\r\n"), "354 go\r\n250 2.0.0 <ANNA@here>\r\n"
            + "250 2.0.0 <anna@Here>\r\n250 2.0.0 <Cleo@here>\r\n250 2.0.0 <dan@here>\r\n");
        Probe.due("all are forgotten", p.mail("DATA\r\nRCPT TO:<dan@here>\r\n"), ORDER + ORDER);
        Probe.due("messages", p.boxes(0) + p.boxes(1) + p.boxes(2) + p.boxes(3), "INBOX:2INBOX:0INBOX:1INBOX:1");
        Probe.due("commits", p.call().count(4), 4);
        Probe.due("RSET forgets", p.mail("MAIL FROM:<>\r\nRCPT TO:<dan@here>\r\nRSET\r\nDATA\r\nMAIL FROM:<>\r\n"),
            SENDER + RECIPIENT + OK + ORDER + SENDER);
    }

    private static void messages() {
        Probe p = greeted();
        String start = "MAIL FROM:<>\r\nRCPT TO:<ben@here>\r\nDATA\r\n";
        String[] raw = {"", "..\r\n", ".a\r\n", "...\r\n", ".\ra\r\n", ".\r\r\n", ".\n\r\n", "a\r.\r\n", "a\n.\r\n", "\r\n\r\n"};
        String[] meant = {"", ".\r\n", "a\r\n", "..\r\n", "\ra\r\n", "\r\r\n", "\n\r\n", "a\r.\r\n", "a\n.\r\n", "\r\n\r\n"};
        for (int i = 0; i < raw.length; i++) {
            p.post(start + raw[i] + ".\r\n");
            Probe.due("message " + i, p.bytes(i), meant[i]);
            Probe.due("its bytes", p.call().message(1, 0, i, 0), meant[i].length());
        }
        p.post(start + "y".repeat(700));
        p.post("\r\n.");
        p.post("\r");
        Probe.due("not yet", p.call().count(0), raw.length);
        p.post("\n");
        Probe.due("a long line, in pieces", p.call().message(1, 0, raw.length, 0), 702);
    }

    private static void tooBig() {
        Probe p = greeted();
        String start = "MAIL FROM:<a@b>\r\nRCPT TO:<ben@here>\r\nDATA\r\n";
        Probe.due("4001 bytes", p.mail(start + "..".repeat(1) + "z".repeat(3998) + "\r\n.\r\nNOOP\r\n"),
            SENDER + RECIPIENT + "354 go\r\n552 5.3.4 too big\r\n" + OK);
        Probe.due("no message, no commit", p.call().count(0) + p.call().count(4), 0);
        Probe p2 = greeted();
        Probe.due("4000 bytes", p2.mail(start + "..".repeat(1) + "z".repeat(3997) + "\r\n.\r\n"),
            SENDER + RECIPIENT + "354 go\r\n250 2.0.0 <ben@here>\r\n");
        Probe.due("its bytes", p2.call().message(1, 0, 0, 0), 4000);
    }

    private static void full() {
        Probe p = new Probe();
        p.activate(3, "require \"fileinto\";fileinto \"a\";fileinto \"b\";fileinto \"c\";fileinto \"d\";fileinto \"e\";keep;");
        p.greet();
        String four = "MAIL FROM:<>\r\n" + "RCPT TO:<dan@here>\r\n".repeat(4) + "DATA\r\n.\r\n";
        for (int i = 0; i < 12; i++) {
            p.post(four);
        }
        p.replies(4);
        Probe.due("288 messages", p.call().count(0), 288);
        Probe.due("two more times six", p.mail(four), SENDER + RECIPIENT.repeat(4) + "354 go\r\n"
            + "250 2.0.0 <dan@here>\r\n".repeat(2) + "452 4.2.2 full\r\n".repeat(2));
        Probe.due("300 messages", p.call().count(0), 300);
        Probe.due("commits", p.call().count(4), 52);
        Probe.due("nobody else's either", p.send("<>", "anna@here", ""), "452 4.2.2 full\r\n");
    }

    private static void quit() {
        Probe p = greeted();
        p.feed("QUIT\r\nNOOP\r\nMAIL FROM:<>\r\n");
        Probe.due("all are looked at", p.call().mail(26), 26);
        Probe.due("bytes behind QUIT are passed over", p.replies(4), "221 2.0.0 bye\r\n");
        Probe.due("no session", p.call().count(7), 0);
        p.feed("NOOP\r\n");
        Probe.due("mail without a session", p.call().mail(6), -1);
        Probe.due("tape stays", p.call().count(5), 20);
    }

    private static void powerGoes() {
        Probe p = greeted();
        p.call().cut(2);
        String start = "MAIL FROM:<>\r\nRCPT TO:<dan@here>\r\nRCPT TO:<ben@here>\r\nDATA\r\nhello\r\n.\r\n";
        p.feed(start + "NOOP\r\n");
        Probe.due("up to the byte that brought it", p.call().mail(start.length() + 6), start.length());
        Probe.due("tape", p.call().count(5), 0);
        Probe.due("answers up to it", p.replies(4), SENDER + RECIPIENT + RECIPIENT + "354 go\r\n250 2.0.0 <dan@here>\r\n");
        Probe.due("no power", p.call().count(6), 0);
        Probe.due("mail without power", p.call().mail(0), -1);
        p.call().start();
        Probe.due("mail without a session", p.call().mail(0), -1);
        Probe.due("first one is there, second one not", p.boxes(3) + p.boxes(1), "INBOX:1INBOX:0");
        p.greet();
        Probe.due("nothing is left of the old session", p.mail("DATA\r\n"), ORDER);
    }
}
