/** Promise 3, connect: over a session in each of its states, over none, without power. */
public final class ConnectEdgesTest {
    private static final String HERE = "220 here LMTP\r\n";
    private static final String ORDER = "503 5.5.1 order\r\n";
    private static final String UNKNOWN = "500 5.5.2 unknown\r\n";

    public static void main(String[] args) {
        begins();
        isGone();
        answersWait();
        withoutPower();
        Probe.end("ConnectEdgesTest");
    }

    private static void begins() {
        Probe.sentence("A session of delivery begins");
        Probe p = new Probe();
        String before = p.state();
        Probe.due("over none", p.call().connect(), true);
        Probe.due("greeting", p.replies(4), HERE);
        Probe.due("nothing else is new", p.state(), before.replace(" 7:0 ", " 7:1 "));
        Probe.due("over one that has heard nothing", p.call().connect(), true);
        Probe.due("greeting again", p.replies(4), HERE);
        Probe.due("one at a time", p.call().count(7), 1);
    }

    private static void isGone() {
        Probe.sentence("one that was there is gone");
        Probe p = Probe.greeted();
        String[] before = {"", "MAIL FROM:<a@b>\r\n", "MAIL FROM:<a@b>\r\nRCPT TO:<dan@here>\r\n", "MAIL FROM:<a@b>\r\nRCPT TO:<dan@here>\r\nDATA\r\n",
            "MAIL FROM:<a@b>\r\nRCPT TO:<dan@here>\r\nDATA\r\nx\r\n.\r", "LHLO x\r", "LH", "x".repeat(501)};
        for (String text : before) {
            p.post(text);
            p.replies(4);
            p.call().connect();
            Probe.due("behind " + text, p.mail("\nO x\r\nDATA\r\nRCPT TO:<dan@here>\r\n"), HERE + UNKNOWN + ORDER + ORDER);
            Probe.due("sender and recipients behind " + text, p.mail("LHLO x\r\nRCPT TO:<dan@here>\r\nDATA\r\n"),
                "250-here\r\n250-SIZE 4000\r\n250 8BITMIME\r\n" + ORDER + ORDER);
        }
        Probe.due("no message", p.call().count(0), 0);
    }

    private static void answersWait() {
        Probe.sentence("its answers that wait are not (gone)");
        Probe p = new Probe();
        p.call().connect();
        p.call().connect();
        p.post("QUIT\r\n");
        p.call().connect();
        Probe.due("in their order", p.replies(4), HERE + HERE + "221 2.0.0 bye\r\n" + HERE);
    }

    private static void withoutPower() {
        Probe.sentence("false without power");
        Probe p = new Probe();
        p.goDark();
        p.refused("connect", () -> p.call().connect(), false);
        Probe.due("no greeting", p.replies(4), "");
        p.call().start();
        Probe.due("no session behind start", p.call().count(7), 0);
        Probe.due("no greeting behind start", p.replies(4), "");
        p.refused("mail behind start", () -> p.call().mail(0), -1);
    }
}
