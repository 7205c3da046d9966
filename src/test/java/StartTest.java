/** Promise 9: start, and what outlives a cut. */
public final class StartTest {
    public static void main(String[] args) {
        Probe p = new Probe();
        Probe.due("with power", p.call().start(), -1);
        p.activate(1, "require [\"fileinto\",\"imap4flags\",\"vacation\"];vacation \"gone\";fileinto :flags \"\\\\Seen\" \"Far\";");
        p.greet();
        p.send("<x@y>", "ben@here", "To: ben@here\r\n");
        p.call().tick();
        p.feed("LOGOUT\r\nLOG");
        p.call().manage(1, 11);
        p.post("NOOP\r\nMAIL FROM:<x@y>\r\nRCPT TO:<ben@here>\r\n");
        p.call().cut(1);
        p.call().tick();
        Probe.due("calls without power", p.call().connect() || p.call().feed(1, 2, 3, 4, 5), false);
        Probe.due("more of them", p.call().mail(0) + p.call().manage(0, 0) + p.call().tick(), -3);
        Probe.due("questions without power", p.boxes(1), "INBOX:0 Far:1/1");
        Probe.due("start", p.call().start(), 4);
        Probe.due("again", p.call().start(), -1);
        Probe.due("power", p.call().count(6), 1);
        Probe.due("no session", p.call().count(7), 0);
        Probe.due("messages", p.boxes(1), "INBOX:0 Far:1/1");
        Probe.due("notes, scripts, day", p.call().count(21) * 100 + p.call().count(11) * 10 + p.call().count(3), 111);
        Probe.due("answers that wait", p.replies(4), "250 2.0.0 ok\r\n250 2.1.0 ok\r\n250 2.1.5 ok\r\n");
        Probe.due("of a user, too", p.replies(1), "OK\r\n");
        Probe.due("sessions for scripts are new", p.manage(1, "OUT\r\nLISTSCRIPTS\r\n"), "NO \"syntax\"\r\n\"s\" ACTIVE\r\nOK\r\n");
        p.greet();
        Probe.due("the session of delivery is new", p.mail("RCPT TO:<ben@here>\r\n"), "503 5.5.1 order\r\n");
        p.send("<x@y>", "ben@here", "To: ben@here\r\n");
        Probe.due("the script runs on, the note is known", p.boxes(1), "INBOX:0 Far:2/1");
        Probe.due("outbox", p.call().count(1), 1);
        Probe.end("StartTest");
    }
}
