/** Delivery: the edges of its lines, commands and messages. */
public final class DeliveryEdgesTest {
    private static final String HELLO = "250-here\r\n250-SIZE 4000\r\n250 8BITMIME\r\n";
    private static final String ORDER = "503 5.5.1 order\r\n";
    private static final String SYNTAX = "501 5.5.4 syntax\r\n";
    private static final String UNKNOWN = "500 5.5.2 unknown\r\n";
    private static final String LONG = "500 5.5.2 too long\r\n";
    private static final String BIG = "552 5.3.4 too big\r\n";
    private static final String OK = "250 2.0.0 ok\r\n";
    private static final String SENDER = "250 2.1.0 ok\r\n";
    private static final String RECIPIENT = "250 2.1.5 ok\r\n";
    private static final String GO = "354 go\r\n";

    public static void main(String[] args) {
        bytesAlone();
        longLines();
        firstOneTold();
        words();
        aheadOfHello();
        helloForgets();
        sizes();
        options();
        aSenderThere();
        recipients();
        fourRecipients();
        data();
        lineOfADot();
        firstDots();
        bigMessages();
        forgotten();
        quit();
        Probe.end("DeliveryEdgesTest");
    }

    private static void bytesAlone() {
        Probe.sentence("a 13 or 10 alone is a byte like others");
        Probe p = Probe.greeted();
        Probe.due("10 behind a line's end", p.mail("NOOP\r\n\nNOOP\r\nNOOP\r\n"), OK + UNKNOWN + OK);
        Probe.due("13 behind a line's end", p.mail("NOOP\r\n\rNOOP\r\nNOOP\r\n"), OK + UNKNOWN + OK);
        Probe.due("13 ahead of a line's end", p.mail("NOOP\r\r\n"), UNKNOWN);
        Probe.due("10 13 is no line's end", p.mail("NOOP\n\rNOOP\r\n"), UNKNOWN);
        Probe.due("13, another byte, 10", p.mail("NOOP\rX\nNOOP\r\n"), UNKNOWN);
        Probe.due("0 and 255", p.mail("\u0000\r\n\u00ff\r\n"), UNKNOWN + UNKNOWN);
    }

    private static void longLines() {
        Probe.sentence("one of more than 500 bytes (without CRLF) is answered, when its CRLF has come, 500 5.5.2 too long");
        Probe p = Probe.greeted();
        String mail500 = "MAIL FROM:<>" + " SIZE=1".repeat(64) + " SIZE=12".repeat(5);
        Probe.due("its length", mail500.length(), 500);
        Probe.due("500 bytes that are just so", p.mail(mail500 + "\r\nRSET\r\n"), SENDER + OK);
        Probe.due("501 bytes", p.mail(mail500 + "3\r\nRCPT TO:<dan@here>\r\n"), LONG + ORDER);
        Probe.due("499 bytes", p.mail("x".repeat(499) + "\r\n"), UNKNOWN);
        Probe.due("501 bytes, 10 among them", p.mail("x".repeat(250) + "\n" + "x".repeat(250) + "\r\n"), LONG);
        Probe.due("500 bytes, the last one a 13", p.mail("x".repeat(499) + "\r\r\n"), UNKNOWN);
        Probe other = Probe.greeted();
        Probe.due("not before its CRLF has come", other.mail("x".repeat(600)), "");
        Probe.due("nor with 13", other.mail("\r"), "");
        Probe.due("but with 10", other.mail("\n"), LONG);
        Probe.due("the next line is a new one", other.mail("NOOP\r\n"), OK);
    }

    private static void firstOneTold() {
        Probe.sentence("of several answers that fit the first one told here");
        Probe p = new Probe();
        p.call().connect();
        p.replies(4);
        Probe.due("too long, of a word that is none", p.mail("x".repeat(501) + "\r\n"), LONG);
        Probe.due("too long, ahead of LHLO", p.mail("DATA " + "x".repeat(496) + "\r\n"), LONG);
        p.mail("LHLO x\r\nMAIL FROM:<>\r\n");
        Probe.due("order, of a SIZE that is too big", p.mail("MAIL FROM:<> SIZE=4001\r\n"), ORDER);
        Probe.due("syntax, though there is a sender", p.mail("MAIL FROM:<> SIZE=\r\n"), SYNTAX);
        p.mail("RSET\r\n");
        Probe.due("order, of no such address", p.mail("RCPT TO:<eve@here>\r\n"), ORDER);
        Probe.due("syntax, though there is no sender", p.mail("RCPT TO:<eve>\r\n"), SYNTAX);
        Probe.due("syntax, though there is no recipient", p.mail("DATA x\r\n"), SYNTAX);
    }

    private static void words() {
        Probe.sentence("500 5.5.2 unknown, if the first word (up to a blank, or the line's end) is none of ..; 501 5.5.4 syntax, if what stands there is not just so");
        Probe p = Probe.greeted();
        String[] bare = {"DATA", "RSET", "NOOP", "QUIT"};
        for (String word : bare) {
            Probe.due(word, p.mail(word + " \r\n" + word + " x\r\n" + word + "x\r\n" + word.substring(1) + "\r\n" + word.substring(0, 3) + "\r\n" + word + "\t\r\n"),
                SYNTAX + SYNTAX + UNKNOWN + UNKNOWN + UNKNOWN + UNKNOWN);
        }
        Probe.due("empty, blank", p.mail("\r\n \r\n NOOP\r\n"), UNKNOWN.repeat(3));
        Probe.due("FROM: and TO: not just so", p.mail("MAIL FROX:<a@b>\r\nMAIL FROM;<a@b>\r\nMAIL FROM:(a@b>\r\nMAIL FROM:xa@b>\r\nMAIL FROM:<a@b)\r\nMAIL FROM:<a@b>>\r\n"
            + "MAIL FROM:<<a@b>\r\nRCPT TX:<anna@here>\r\nRCPT TO:xanna@here>\r\nRCPT TO:<anna@here\r\nRCPT TO:<anna@here>>\r\nRCPT FROM:<anna@here>\r\nRCPT\r\nRCPT \r\n"),
            SYNTAX.repeat(14));
        Probe.due("without case", p.mail("lhlO x\r\nmAIL froM:<a@b>\r\nrcPT tO:<dan@here>\r\nrSET\r\nnooP\r\ndaTA\r\n"), HELLO + SENDER + RECIPIENT + OK + OK + ORDER);
        Probe.due("no sender by those that were not just so", p.mail("RCPT TO:<dan@here>\r\n"), ORDER);
    }

    private static void aheadOfHello() {
        Probe.sentence("Ahead of the first LHLO of those seven all but LHLO, NOOP, RSET, QUIT: 503 5.5.1 order");
        Probe p = new Probe();
        p.call().connect();
        p.replies(4);
        Probe.due("three of them", p.mail("MAIL FROM:<>\r\nRCPT TO:<dan@here>\r\nDATA\r\n"), ORDER.repeat(3));
        Probe.due("ahead of syntax", p.mail("MAIL\r\nRCPT x\r\nDATA x\r\n"), ORDER.repeat(3));
        Probe.due("the other ones", p.mail("NOOP\r\nRSET\r\nNOOP x\r\nRSET x\r\nQUIT x\r\nFOO\r\n"), OK + OK + SYNTAX.repeat(3) + UNKNOWN);
        Probe.due("a wrong LHLO is none", p.mail("LHLO\r\nLHLO \r\nLHLO x y\r\nMAIL FROM:<>\r\n"), SYNTAX.repeat(3) + ORDER);
        Probe.due("LHLO", p.mail("LHLO x\r\nMAIL FROM:<>\r\n"), HELLO + SENDER);
        Probe.due("QUIT ahead of it", quitAheadOfHello(), "220 here LMTP\r\n221 2.0.0 bye\r\n");
    }

    private static String quitAheadOfHello() {
        Probe p = new Probe();
        p.call().connect();
        return p.mail("QUIT\r\n");
    }

    private static void helloForgets() {
        Probe.sentence("LHLO, a blank, and a domain: .. Whatever was told before is forgotten");
        Probe p = Probe.greeted();
        String sixty = "a".repeat(30) + "." + "b".repeat(29);
        Probe.due("1 and 60 bytes", p.mail("LHLO a\r\nLHLO " + sixty + "\r\n"), HELLO + HELLO);
        Probe.due("0 and 61 bytes", p.mail("LHLO \r\nLHLO " + sixty + "b\r\nLHLO\r\n"), SYNTAX.repeat(3));
        Probe.due("a sender", p.mail("MAIL FROM:<a@b>\r\nLHLO x\r\nRCPT TO:<dan@here>\r\n"), SENDER + HELLO + ORDER);
        Probe.due("recipients", p.mail("MAIL FROM:<a@b>\r\nRCPT TO:<dan@here>\r\nLHLO x\r\nMAIL FROM:<a@b>\r\nDATA\r\n"), SENDER + RECIPIENT + HELLO + SENDER + ORDER);
        Probe.due("not by a wrong one", p.mail("RCPT TO:<dan@here>\r\nLHLO " + sixty + "b\r\nDATA\r\n"), RECIPIENT + SYNTAX + GO);
    }

    private static void sizes() {
        Probe.sentence("SIZE= with 1 .. 9 digits; 552 5.3.4 too big, if a SIZE is above 4000");
        String[] taken = {"0", "1", "4000", "004000", "000004000", "000000000"};
        String[] tooBig = {"4001", "04001", "000004001", "999999999", "10000"};
        String[] wrong = {"", "0000000001", "4294967296", "1234567890", "-1", "+1", "1.0", "4 000", "1x", "x", "=1"};
        Probe p = Probe.greeted();
        for (String digits : taken) {
            Probe.due("SIZE=" + digits, p.mail("MAIL FROM:<a@b> SIZE=" + digits + "\r\nRSET\r\n"), SENDER + OK);
        }
        for (String digits : tooBig) {
            Probe.due("SIZE=" + digits, p.mail("MAIL FROM:<a@b> SIZE=" + digits + "\r\nRCPT TO:<dan@here>\r\n"), BIG + ORDER);
        }
        for (String digits : wrong) {
            Probe.due("SIZE=" + digits, p.mail("MAIL FROM:<a@b> SIZE=" + digits + "\r\nRCPT TO:<dan@here>\r\n"), SYNTAX + ORDER);
        }
    }

    private static void options() {
        Probe.sentence("then any number of: a blank and SIZE= .. or BODY=8BITMIME (both without case, each any number of times)");
        String[] taken = {"", " BODY=8BITMIME", " body=8bitmime BODY=8BITMIME", " SIZE=1 SIZE=4000 siZe=2", " SIZE=1 BODY=8BITMIME SIZE=1 BODY=8BITMIME"};
        String[] wrong = {" ", " SIZE=1 ", "  SIZE=1", "SIZE=1", " SIZE", " SIZES=1", " BODY=", " BODY=8BITMIM", " BODY=8BITMIMES", " BODY=8BITMIMESIZE=1", "\tSIZE=1",
            " SIZE=1\tSIZE=1", " FOO", " SIZE=1 FOO=1", " BODY8BITMIME"};
        Probe p = Probe.greeted();
        for (String text : taken) {
            Probe.due("options" + text, p.mail("MAIL FROM:<>" + text + "\r\nRSET\r\n"), SENDER + OK);
        }
        for (String text : wrong) {
            Probe.due("options" + text, p.mail("MAIL FROM:<>" + text + "\r\nRCPT TO:<dan@here>\r\n"), SYNTAX + ORDER);
        }
        Probe.due("too big among others", p.mail("MAIL FROM:<> SIZE=1 SIZE=4001 SIZE=2\r\nMAIL FROM:<> SIZE=4001 BODY=8BITMIME\r\n"), BIG + BIG);
        Probe.due("too big is not remembered", p.mail("MAIL FROM:<> SIZE=1\r\n"), SENDER);
    }

    private static void aSenderThere() {
        Probe.sentence("503 5.5.1 order, if there is a sender; of <> one without an address");
        Probe p = new Probe();
        p.activate(3, "require \"envelope\";if envelope \"from\" \"a@b\"{discard;}");
        p.greet();
        Probe.due("a second one", p.mail("MAIL FROM:<a@b>\r\nMAIL FROM:<c@d>\r\nMAIL FROM:<>\r\nRCPT TO:<dan@here>\r\nDATA\r\n.\r\n"),
            SENDER + ORDER + ORDER + RECIPIENT + GO + "250 2.0.0 <dan@here>\r\n");
        Probe.due("the first one stands", p.call().count(0), 0);
        Probe.due("one without an address is one", p.mail("MAIL FROM:<>\r\nMAIL FROM:<a@b>\r\nRCPT TO:<dan@here>\r\nDATA\r\n.\r\n"),
            SENDER + ORDER + RECIPIENT + GO + "250 2.0.0 <dan@here>\r\n");
        Probe.due("and stands", p.call().count(0), 1);
    }

    private static void recipients() {
        Probe.sentence("550 5.1.1 no such, if it is no address of a user (without case); 250 2.1.5 ok (also for one that is a recipient already: one more)");
        Probe p = Probe.greeted();
        p.mail("MAIL FROM:<>\r\n");
        String[] none = {"ann@here", "annaa@here", "aanna@here", "anna@her", "anna@heree", "anna@here.x", "bcn@here", "danna@here", "a@here", "dan@there", "here@dan"};
        for (String address : none) {
            Probe.due(address, p.mail("RCPT TO:<" + address + ">\r\n"), "550 5.1.1 no such\r\n");
        }
        Probe.due("no recipient by them", p.mail("DATA\r\n"), ORDER);
        Probe.due("each user", p.mail("RCPT TO:<ANNA@HERE>\r\nRCPT TO:<bEn@here>\r\nRCPT TO:<cleo@heRE>\r\nRCPT TO:<Dan@here>\r\n"), RECIPIENT.repeat(4));
        Probe.due("delivered to each", p.mail("DATA\r\n.\r\n"),
            GO + "250 2.0.0 <ANNA@HERE>\r\n250 2.0.0 <bEn@here>\r\n250 2.0.0 <cleo@heRE>\r\n250 2.0.0 <Dan@here>\r\n");
        Probe.due("in each mailbox", p.boxes(0) + p.boxes(1) + p.boxes(2) + p.boxes(3), "INBOX:1".repeat(4));
        p.mail("MAIL FROM:<>\r\n" + "RCPT TO:<ben@here>\r\n".repeat(4) + "DATA\r\n.\r\n");
        Probe.due("four times the same one", p.boxes(1), "INBOX:5");
    }

    private static void fourRecipients() {
        Probe.sentence("452 4.5.3 too many behind four");
        Probe p = Probe.greeted();
        Probe.due("four", p.mail("MAIL FROM:<>\r\n" + "RCPT TO:<dan@here>\r\n".repeat(4)), SENDER + RECIPIENT.repeat(4));
        Probe.due("a fifth and a sixth", p.mail("RCPT TO:<dan@here>\r\nRCPT TO:<ben@here>\r\n"), "452 4.5.3 too many\r\n".repeat(2));
        Probe.due("no such, ahead of too many", p.mail("RCPT TO:<eve@here>\r\n"), "550 5.1.1 no such\r\n");
        Probe.due("four of them are recipients", p.mail("DATA\r\n.\r\n"), GO + "250 2.0.0 <dan@here>\r\n".repeat(4));
        Probe.due("no fifth message", p.call().count(0), 4);
        Probe.due("four again", p.mail("MAIL FROM:<>\r\n" + "RCPT TO:<dan@here>\r\n".repeat(5)), SENDER + RECIPIENT.repeat(4) + "452 4.5.3 too many\r\n");
    }

    private static void data() {
        Probe.sentence("DATA: 503 5.5.1 order without a recipient");
        Probe p = Probe.greeted();
        Probe.due("without a sender", p.mail("DATA\r\n"), ORDER);
        Probe.due("with a sender", p.mail("MAIL FROM:<>\r\nDATA\r\nRCPT TO:<eve@here>\r\nDATA\r\n"), SENDER + ORDER + "550 5.1.1 no such\r\n" + ORDER);
        Probe.due("the line behind it is a command", p.mail("NOOP\r\n"), OK);
        Probe.due("with one", p.mail("RCPT TO:<dan@here>\r\nDATA\r\nNOOP\r\n"), RECIPIENT + GO);
    }

    private static String delivered(Probe p, String raw) {
        int number = p.call().count(0);
        p.post("MAIL FROM:<>\r\nRCPT TO:<ben@here>\r\nDATA\r\n" + raw + ".\r\n");
        return p.bytes(number);
    }

    private static void lineOfADot() {
        Probe.sentence("all lines up to one that is . alone are the MESSAGE, each with its CRLF");
        Probe p = Probe.greeted();
        String[] raw = {"", "\r\n", "\n.\r\n", "\r.\r\n", "x\n.\n\r\n", "x\r.\r\n", "x\r\r\n", "x.\r\n", " .\r\n", "\n\r\n", "NOOP\r\nQUIT\r\n"};
        for (String text : raw) {
            Probe.due("message " + text, delivered(p, text), text);
        }
        Probe.due("the session goes on", p.call().count(7), 1);
    }

    private static void firstDots() {
        Probe.sentence("a first . left out if more stands behind it");
        Probe p = Probe.greeted();
        String[] raw = {"..\r\n", "...\r\n", ".x\r\n", ". \r\n", ".\r\r\n", ".\n\r\n", ".\rx\r\n", ".\n.\r\n", "x..\r\n", ".x.\r\n..y\r\n"};
        String[] meant = {".\r\n", "..\r\n", "x\r\n", " \r\n", "\r\r\n", "\n\r\n", "\rx\r\n", "\n.\r\n", "x..\r\n", "x.\r\n.y\r\n"};
        for (int i = 0; i < raw.length; i++) {
            Probe.due("message " + raw[i], delivered(p, raw[i]), meant[i]);
        }
    }

    private static void bigMessages() {
        Probe.sentence("552 5.3.4 too big, if the message has more than 4000 bytes");
        String two = "MAIL FROM:<a@b>\r\nRCPT TO:<ben@here>\r\nRCPT TO:<dan@here>\r\nDATA\r\n";
        String before = SENDER + RECIPIENT + RECIPIENT + GO;
        Probe p = Probe.greeted();
        p.refused("4001 bytes", () -> p.mail(two + "x".repeat(3999) + "\r\n.\r\n"), before + BIG + BIG);
        Probe.due("a small one behind it", p.mail(two + "x\r\n.\r\n"), before + "250 2.0.0 <ben@here>\r\n250 2.0.0 <dan@here>\r\n");
        Probe.due("its bytes", p.bytes(0), "x\r\n");
        Probe fits = Probe.greeted();
        Probe.due("4000 bytes", fits.mail(two + "x".repeat(3998) + "\r\n.\r\n"), before + "250 2.0.0 <ben@here>\r\n250 2.0.0 <dan@here>\r\n");
        Probe.due("as they are meant, without first dots", fits.mail("MAIL FROM:<>\r\nRCPT TO:<anna@here>\r\nDATA\r\n" + ".x\r\n".repeat(12) + ".\r\n"),
            SENDER + RECIPIENT + GO + "250 2.0.0 <anna@here>\r\n");
        Probe.due("twelve lines", fits.call().message(0, 0, 0, 0), 36);
        Probe dots = Probe.greeted();
        Probe.due("4000 bytes behind first dots", dots.mail(two + ".".repeat(100) + "y".repeat(3899) + "\r\n.\r\n"),
            before + "250 2.0.0 <ben@here>\r\n250 2.0.0 <dan@here>\r\n");
        Probe huge = Probe.greeted();
        String line = two + "x".repeat(5000);
        huge.post(line);
        Probe.due("far more bytes", huge.mail("x".repeat(2000) + "\r\n.\r\nNOOP\r\n"), before + BIG + BIG + OK);
    }

    private static void forgotten() {
        Probe.sentence("and sender and recipients are forgotten; RSET: 250 2.0.0 ok, sender and recipients are forgotten");
        String one = "MAIL FROM:<>\r\nRCPT TO:<dan@here>\r\n";
        Probe p = Probe.greeted();
        Probe.due("behind a message", p.mail(one + "DATA\r\n.\r\nRCPT TO:<dan@here>\r\nDATA\r\n"),
            SENDER + RECIPIENT + GO + "250 2.0.0 <dan@here>\r\n" + ORDER + ORDER);
        Probe.due("recipients, though there is a new sender", p.mail("MAIL FROM:<>\r\nDATA\r\n"), SENDER + ORDER);
        Probe.due("by RSET", p.mail("RSET\r\n" + one + "RSET\r\nRCPT TO:<dan@here>\r\nDATA\r\nMAIL FROM:<>\r\nDATA\r\n"), OK + SENDER + RECIPIENT + OK + ORDER + ORDER + SENDER + ORDER);
        Probe.due("not by NOOP", p.mail("RCPT TO:<dan@here>\r\nNOOP\r\nDATA\r\n.\r\n"), RECIPIENT + OK + GO + "250 2.0.0 <dan@here>\r\n");
        Probe.due("RSET is no LHLO's end", p.mail("RSET\r\nMAIL FROM:<>\r\n"), OK + SENDER);
    }

    private static void quit() {
        Probe.sentence("QUIT: 221 2.0.0 bye, the session ends");
        Probe p = Probe.greeted();
        Probe.due("not just so", p.mail("QUIT x\r\nquit \r\n"), SYNTAX + SYNTAX);
        Probe.due("goes on", p.call().count(7), 1);
        Probe.due("just so", p.mail("quit\r\n"), "221 2.0.0 bye\r\n");
        Probe.due("ends", p.call().count(7), 0);
    }
}
