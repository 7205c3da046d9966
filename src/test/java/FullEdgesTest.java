/** The store's limits: the last message, answer and byte that is taken, and the first that is refused. */
public final class FullEdgesTest {
    private static final String FULL = "452 4.2.2 full\r\n";
    private static final String SIX_BOXES = "require \"fileinto\";fileinto \"a\";fileinto \"b\";fileinto \"c\";fileinto \"d\";fileinto \"e\";keep;";
    private static final String FOUR_SENT = "redirect \"a@b\";redirect \"b@b\";redirect \"c@b\";redirect \"d@b\";";

    public static void main(String[] args) {
        boxesFull();
        boxesBesideOutbox();
        outboxFull();
        outboxAndAnswers();
        outboxAndRefusals();
        bytesFull();
        bytesOfAnswers();
        bytesOfCopies();
        Probe.end("FullEdgesTest");
    }

    private static String done(String address) {
        return "250 2.0.0 <" + address + ">\r\n";
    }

    private static void toFour(Probe p, String address, int times, String message) {
        String text = "MAIL FROM:<>\r\n" + ("RCPT TO:<" + address + ">\r\n").repeat(4) + "DATA\r\n" + message + ".\r\n";
        for (int i = 0; i < times; i++) {
            p.post(text);
        }
    }

    /** Users' scripts, and a session. */
    private static Probe ready(String dan, String ben) {
        Probe p = new Probe();
        p.activate(3, dan);
        p.activate(1, ben);
        p.greet();
        return p;
    }

    private static void boxesFull() {
        Probe.sentence("452 4.2.2 full, if that would go beyond the STORE (then nothing of it is done): 300 messages in mailboxes (in two mailboxes it is two)");
        Probe p = ready(SIX_BOXES, "require \"fileinto\";fileinto \"x\";keep;");
        toFour(p, "dan@here", 12, "");
        toFour(p, "anna@here", 1, "");
        p.replies(4);
        p.send("<>", "dan@here", "");
        p.send("<>", "anna@here", "");
        Probe.due("299 messages", p.call().count(0), 299);
        int commits = p.call().count(4);
        Probe.due("two of them", p.send("<>", "ben@here", ""), FULL);
        Probe.due("neither of them, no mailbox, no commit", p.call().count(0) * 1000 + p.call().count(31) * 100 + p.call().count(4), 299100 + commits);
        Probe.due("one of them", p.send("<>", "anna@here", ""), done("anna@here"));
        Probe.due("300 messages", p.call().count(0), 300);
        Probe.due("one more", p.send("<>", "anna@here", ""), FULL);
        Probe.due("still 300", p.call().count(0), 300);
    }

    private static void boxesBesideOutbox() {
        Probe.sentence("300 messages in mailboxes and 100 in the outbox: each has its own limit");
        Probe p = ready(SIX_BOXES, FOUR_SENT);
        toFour(p, "ben@here", 2, "");
        Probe.due("32 in the outbox", p.call().count(1), 32);
        toFour(p, "dan@here", 12, "");
        p.replies(4);
        p.post("MAIL FROM:<>\r\nRCPT TO:<dan@here>\r\nRCPT TO:<dan@here>\r\nRCPT TO:<dan@here>\r\nDATA\r\n.\r\n");
        Probe.due("300 and 32", p.call().count(0), 332);
        p.post("MAIL FROM:<>\r\nRCPT TO:<ben@here>\r\nDATA\r\n.\r\n");
        Probe.due("four more to the outbox", p.call().count(0), 336);
    }

    private static void outboxFull() {
        Probe.sentence("100 in the outbox in all");
        Probe p = ready(FOUR_SENT, "redirect \"x@y\";redirect \"z@y\";");
        p.activate(0, "require \"copy\";redirect :copy \"x@y\";");
        toFour(p, "dan@here", 6, "");
        p.replies(4);
        p.send("<>", "ben@here", "");
        p.send("<>", "anna@here", "");
        Probe.due("99 in the outbox", p.call().count(1), 99);
        int commits = p.call().count(4);
        Probe.due("two of them", p.send("<>", "ben@here", ""), FULL);
        Probe.due("neither of them, no commit", p.call().count(1) * 100 + p.call().count(4), 9900 + commits);
        Probe.due("one, and a kept one", p.send("<>", "anna@here", ""), done("anna@here"));
        Probe.due("100 in the outbox, 2 kept", p.call().count(1) * 10 + p.call().messages(0, 0), 1002);
        Probe.due("one more", p.send("<>", "anna@here", ""), FULL);
        Probe.due("not even kept", p.call().messages(0, 0), 2);
        Probe.due("none to the outbox", p.send("<>", "cleo@here", ""), done("cleo@here"));
    }

    private static void outboxAndAnswers() {
        Probe.sentence("answers are messages of the outbox: of vacation");
        Probe p = ready(FOUR_SENT, "redirect \"x@y\";redirect \"z@y\";redirect \"w@y\";");
        p.activate(0, "require \"vacation\";vacation \"r\";");
        toFour(p, "dan@here", 6, "");
        p.replies(4);
        p.send("<>", "ben@here", "");
        Probe.due("99 in the outbox", p.call().count(1), 99);
        Probe.due("the hundredth", p.send("<x@y>", "anna@here", "To: anna@here\r\n"), done("anna@here"));
        Probe.due("100 in the outbox, a note", p.call().count(1) * 10 + p.call().count(20), 1001);
        Probe.due("one more", p.send("<z@y>", "anna@here", "To: anna@here\r\n"), FULL);
        Probe.due("no note, not kept", p.call().count(20) * 10 + p.call().messages(0, 0), 11);
        Probe.due("no answer is due", p.send("<x@y>", "anna@here", "To: anna@here\r\n"), done("anna@here"));
    }

    private static void outboxAndRefusals() {
        Probe.sentence("answers are messages of the outbox: of reject");
        Probe p = ready(FOUR_SENT, "redirect \"x@y\";redirect \"z@y\";redirect \"w@y\";");
        p.activate(0, "require \"reject\";reject \"r\";");
        toFour(p, "dan@here", 6, "");
        p.replies(4);
        p.send("<>", "ben@here", "");
        Probe.due("the hundredth", p.send("<x@y>", "anna@here", ""), done("anna@here"));
        Probe.due("100 in the outbox", p.call().count(1), 100);
        Probe.due("one more", p.send("<x@y>", "anna@here", ""), FULL);
        Probe.due("none, without a sender", p.send("<>", "anna@here", ""), done("anna@here"));
        Probe.due("100 in the outbox still", p.call().count(1), 100);
    }

    private static void bytesFull() {
        Probe.sentence("150000 bytes in them");
        Probe p = ready(SIX_BOXES + FOUR_SENT, "keep;");
        toFour(p, "dan@here", 1, "z".repeat(3738) + "\r\n");
        p.replies(4);
        Probe.due("149600 bytes", p.call().count(2), 149600);
        Probe.due("401 more", p.send("<>", "ben@here", "z".repeat(399) + "\r\n"), FULL);
        Probe.due("not kept", p.call().count(0), 40);
        Probe.due("398 more", p.send("<>", "ben@here", "z".repeat(396) + "\r\n"), done("ben@here"));
        Probe.due("3 more", p.send("<>", "ben@here", "z\r\n"), FULL);
        Probe.due("2 more", p.send("<>", "ben@here", "\r\n"), done("ben@here"));
        Probe.due("150000 bytes", p.call().count(2), 150000);
        Probe.due("2 more again", p.send("<>", "ben@here", "\r\n"), FULL);
        Probe.due("0 more", p.send("<>", "ben@here", ""), done("ben@here"));
    }

    private static void bytesOfAnswers() {
        Probe.sentence("150000 bytes in them (.. answers are messages of the outbox)");
        String before = "To: x@y\r\nSubject: Refused\r\n\r\n";
        String reason = "r".repeat(400 - before.length() - 2);
        Probe p = ready(SIX_BOXES + FOUR_SENT, "require \"reject\";if exists \"a\"{reject text:\n" + reason.substring(1) + "\n.\n;}else{reject text:\n" + reason + "\n.\n;}");
        toFour(p, "dan@here", 1, "z".repeat(3738) + "\r\n");
        p.replies(4);
        Probe.due("149600 bytes", p.call().count(2), 149600);
        Probe.due("an answer of 401 bytes", p.send("<x@y>", "ben@here", "b:\r\n"), FULL);
        Probe.due("no answer", p.call().count(2), 149600);
        Probe.due("an answer of 400 bytes", p.send("<x@y>", "ben@here", "a:\r\n"), done("ben@here"));
        Probe.due("150000 bytes", p.call().count(2), 150000);
    }

    private static void bytesOfCopies() {
        Probe.sentence("150000 bytes in them: a kept message and its redirected copy count both");
        Probe p = ready(SIX_BOXES + FOUR_SENT, "require \"copy\";redirect :copy \"x@y\";");
        toFour(p, "dan@here", 1, "z".repeat(3738) + "\r\n");
        p.replies(4);
        Probe.due("twice 201 bytes", p.send("<>", "ben@here", "z".repeat(199) + "\r\n"), FULL);
        Probe.due("neither of them", p.call().count(0), 40);
        Probe.due("twice 200 bytes", p.send("<>", "ben@here", "z".repeat(198) + "\r\n"), done("ben@here"));
        Probe.due("150000 bytes", p.call().count(2), 150000);
    }
}
