/** Promise 10, messages: the first and last user and mailbox, and those that there are not. */
public final class MessagesEdgesTest {
    private static final int[] FAR = {Integer.MIN_VALUE, -1, Integer.MAX_VALUE};

    public static void main(String[] args) {
        users();
        boxes();
        howMany();
        withoutPower();
        Probe.end("MessagesEdgesTest");
    }

    private static void users() {
        Probe.sentence("Of a user's mailbox .. -1 if there is none: users 0 .. 3");
        Probe p = Probe.greeted();
        p.send("<>", "anna@here", "");
        p.send("<>", "dan@here", "");
        p.send("<>", "dan@here", "");
        int[] due = {1, 0, 0, 2, -1, -1};
        for (int user = 0; user < due.length; user++) {
            Probe.due("user " + user, p.call().messages(user, 0), due[user]);
        }
        for (int user : FAR) {
            Probe.due("user " + user, p.call().messages(user, 0), -1);
        }
    }

    private static void boxes() {
        Probe.sentence("0 INBOX, others in the order in which they were made; -1 if there is none");
        Probe p = Probe.greeted();
        p.activate(1, "require \"fileinto\";fileinto \"z\";fileinto \"a\";fileinto \"m\";fileinto \"Z\";fileinto \"b\";");
        p.send("<>", "ben@here", "");
        p.activate(1, "require \"fileinto\";fileinto \"m\";fileinto \"b\";");
        p.send("<>", "ben@here", "");
        p.activate(1, "require \"fileinto\";fileinto \"b\";");
        p.send("<>", "ben@here", "");
        int[] due = {0, 1, 1, 2, 1, 3, -1, -1};
        for (int box = 0; box < due.length; box++) {
            Probe.due("mailbox " + box, p.call().messages(1, box), due[box]);
        }
        for (int box : FAR) {
            Probe.due("mailbox " + box, p.call().messages(1, box), -1);
        }
        Probe.due("the order", p.boxes(1), "INBOX:0 z:1 a:1 m:2 Z:1 b:3");
        Probe.due("another user has none of them", p.call().messages(0, 1), -1);
    }

    private static void howMany() {
        Probe.sentence("how many messages it has");
        Probe p = new Probe();
        p.activate(2, "redirect \"a@b\";");
        p.greet();
        p.send("<>", "cleo@here", "");
        Probe.due("none, but one in the outbox", p.call().messages(2, 0), 0);
        String four = "MAIL FROM:<>\r\n" + "RCPT TO:<anna@here>\r\n".repeat(4) + "DATA\r\n.\r\n";
        for (int i = 1; i <= 40; i++) {
            p.post(four);
            Probe.due("four more", p.call().messages(0, 0), 4 * i);
        }
    }

    private static void withoutPower() {
        Probe.sentence("all calls but .. questions are refused: messages answers without power");
        Probe p = Probe.greeted();
        p.send("<>", "anna@here", "");
        p.goDark();
        p.refused("a mailbox", () -> p.call().messages(0, 0), 1);
        p.refused("none", () -> p.call().messages(0, 1), -1);
    }
}
