/** Promise 4, mail: how many bytes are asked for, looked at and passed over. */
public final class MailEdgesTest {
    private static final String OK = "250 2.0.0 ok\r\n";

    public static void main(String[] args) {
        firstBytes();
        numbers();
        noSession();
        noPower();
        behindQuit();
        powerGoes();
        Probe.end("MailEdgesTest");
    }

    private static void firstBytes() {
        Probe.sentence("The first n bytes of the tape come to the session of delivery; the whole tape is empty then");
        Probe p = Probe.greeted();
        p.feed("NOOP\r\nNOOP\r\nNOOP\r\nN");
        Probe.due("none", p.call().mail(0), 0);
        Probe.due("no answer", p.replies(4), "");
        Probe.due("the tape is empty", p.call().count(5), 0);
        p.feed("NOOP\r\nNOOP\r\nNOOP\r\nNO");
        Probe.due("all but one", p.call().mail(19), 19);
        Probe.due("the tape is empty again", p.call().count(5), 0);
        Probe.due("the last byte did not come", p.mail("OOP\r\n"), OK + OK + OK + OK);
        p.feed("NOOP\r\nNOOP\r\nNOOP\r\nNO");
        Probe.due("all", p.call().mail(20), 20);
        Probe.due("the last byte came", p.mail("OP\r\n"), OK + OK + OK + OK);
        Probe full = Probe.greeted();
        full.feed("x".repeat(5992) + "\r\nNOOP\r\n");
        Probe.due("a full tape", full.call().mail(6000), 6000);
        Probe.due("up to its last byte", full.replies(4), "500 5.5.2 too long\r\n" + OK);
    }

    private static void numbers() {
        Probe.sentence("-1, refused, .. if n is not 0 .. the bytes that there are");
        Probe p = Probe.greeted();
        p.post("NO");
        p.feed("OP\r\n1234567890123456");
        int[] wrong = {-1, 21, Integer.MIN_VALUE, Integer.MAX_VALUE};
        for (int n : wrong) {
            p.refused("mail " + n, () -> p.call().mail(n), -1);
        }
        Probe.due("nothing was answered", p.replies(4), "");
        Probe.due("what there is", p.call().mail(4), 4);
        Probe.due("line and tape were as before", p.replies(4), OK);
        p.refused("one of none", () -> p.call().mail(1), -1);
        Probe.due("none of none", p.call().mail(0), 0);
    }

    private static void noSession() {
        Probe.sentence("-1, refused, if there is no session");
        Probe p = new Probe();
        p.feed("NOOP\r\n");
        p.refused("all", () -> p.call().mail(20), -1);
        p.refused("none", () -> p.call().mail(0), -1);
        p.call().connect();
        Probe.due("with a session", p.call().mail(6), 6);
        Probe.due("the tape was as before", p.replies(4), "220 here LMTP\r\n" + OK);
        p.post("QUIT\r\n");
        p.feed("NOOP\r\n");
        p.refused("behind QUIT", () -> p.call().mail(6), -1);
        Probe.due("no answer", p.replies(4), "221 2.0.0 bye\r\n");
    }

    private static void noPower() {
        Probe.sentence("-1, refused, if there is .. no power");
        Probe p = Probe.greeted();
        p.goDark();
        p.refused("none", () -> p.call().mail(0), -1);
        p.refused("one", () -> p.call().mail(1), -1);
        Probe.due("no answer", p.replies(4), "");
    }

    private static void behindQuit() {
        Probe.sentence("bytes behind QUIT's line are passed over");
        Probe p = Probe.greeted();
        String before = "MAIL FROM:<>\r\nRCPT TO:<ben@here>\r\nQUIT\r\n";
        String behind = "DATA\r\nx\r\n.\r\nLHLO x\r\nQUIT\r\n";
        p.feed(before + behind);
        int all = before.length() + behind.length();
        Probe.due("all of them are counted", p.call().mail(all), all);
        Probe.due("none is answered", p.replies(4), "250 2.1.0 ok\r\n250 2.1.5 ok\r\n221 2.0.0 bye\r\n");
        Probe.due("no message", p.call().count(0), 0);
        Probe.due("the tape is empty", p.call().count(5), 0);
        Probe.due("the session has ended", p.call().count(7), 0);
        p.greet();
        Probe.due("none waits for the next session", p.mail("NOOP\r\n"), OK);
    }

    private static void powerGoes() {
        Probe.sentence("how many of them were looked at till the power's end, with the one that brought it (all, if it stays)");
        String text = "MAIL FROM:<>\r\nRCPT TO:<ben@here>\r\nRCPT TO:<dan@here>\r\nDATA\r\n.\r\n";
        int size = text.length();
        for (int cut = 1; cut <= 3; cut++) {
            Probe p = Probe.greeted();
            p.call().cut(cut);
            p.feed(text + "NOOP\r\n");
            Probe.due("with bytes behind it, cut " + cut, p.call().mail(size + 6), cut == 3 ? size + 6 : size);
            Probe.due("the tape is empty", p.call().count(5), 0);
            Probe.due("power", p.call().count(6), cut == 3 ? 1 : 0);
            Probe.due("commits", p.call().count(4), cut - 1);
        }
        Probe last = Probe.greeted();
        last.call().cut(1);
        last.feed(text);
        Probe.due("the last byte but one brings nothing", last.call().mail(size - 1), size - 1);
        Probe.due("power stays", last.call().count(6), 1);
        last.feed("\n");
        Probe.due("the last byte brings it", last.call().mail(1), 1);
        Probe.due("power goes", last.call().count(6), 0);
    }
}
