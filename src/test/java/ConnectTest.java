/** Promise 3: connect. */
public final class ConnectTest {
    public static void main(String[] args) {
        Probe p = new Probe();
        Probe.due("connect", p.call().connect(), true);
        Probe.due("session", p.call().count(7), 1);
        Probe.due("greeting", p.replies(4), "220 here LMTP\r\n");
        p.post("LHLO x\r\nMAIL FROM:<a@b>\r\nRCPT TO:<dan@here>\r\nDATA\r\nhalf a mess");
        Probe.due("connect again", p.call().connect(), true);
        Probe.due("answers that waited, and a new greeting", p.replies(4),
            "250-here\r\n250-SIZE 4000\r\n250 8BITMIME\r\n250 2.1.0 ok\r\n250 2.1.5 ok\r\n354 go\r\n220 here LMTP\r\n");
        Probe.due("the old session is gone", p.mail("age\r\n.\r\nMAIL FROM:<a@b>\r\n"),
            "500 5.5.2 unknown\r\n500 5.5.2 unknown\r\n503 5.5.1 order\r\n");
        p.post("LHL");
        p.call().connect();
        Probe.due("half a line is gone", p.mail("O x\r\n"), "220 here LMTP\r\n500 5.5.2 unknown\r\n");
        Probe.due("after QUIT", p.mail("QUIT\r\n"), "221 2.0.0 bye\r\n");
        Probe.due("no session", p.call().count(7), 0);
        Probe.due("connect after QUIT", p.call().connect(), true);
        Probe.due("session again", p.call().count(7), 1);
        p.call().cut(1);
        p.call().tick();
        Probe.due("connect without power", p.call().connect(), false);
        Probe.due("no session without power", p.call().count(7), 0);
        Probe.due("no second greeting", p.replies(4), "220 here LMTP\r\n");
        p.call().start();
        Probe.due("no session after start", p.call().count(7), 0);
        Probe.due("connect with power", p.call().connect(), true);
        Probe.end("ConnectTest");
    }
}
