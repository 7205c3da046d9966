/** Promise 11, message: the first and last message, the least and most that is told of it, and what is none. */
public final class MessageEdgesTest {
    private static final int[] FAR = {Integer.MIN_VALUE, -1, Integer.MAX_VALUE};

    public static void main(String[] args) {
        places();
        whats();
        sizes();
        flags();
        numbers();
        withoutPower();
        Probe.end("MessageEdgesTest");
    }

    private static void places() {
        Probe.sentence("Of message i (from 0) of a mailbox; -1 if there is none");
        Probe p = Probe.greeted();
        p.send("<>", "dan@here", "1\r\n");
        p.send("<>", "anna@here", "12\r\n");
        p.send("<>", "dan@here", "123\r\n");
        int[] due = {3, 5, -1, -1};
        for (int i = 0; i < due.length; i++) {
            Probe.due("message " + i, p.call().message(3, 0, i, 0), due[i]);
        }
        for (int far : FAR) {
            Probe.due("message " + far, p.call().message(3, 0, far, 0), -1);
            Probe.due("mailbox " + far, p.call().message(3, far, 0, 0), -1);
            Probe.due("user " + far, p.call().message(far, 0, 0, 0), -1);
        }
        Probe.due("user 4", p.call().message(4, 0, 0, 0), -1);
        Probe.due("mailbox 1", p.call().message(3, 1, 0, 0), -1);
        Probe.due("an empty mailbox", p.call().message(1, 0, 0, 0), -1);
        Probe.due("another user's", p.call().message(0, 0, 0, 0), 4);
        Probe.due("his only one", p.call().message(0, 0, 1, 0), -1);
    }

    private static void whats() {
        Probe.sentence("-1 .. for another what");
        Probe p = Probe.greeted();
        p.send("<>", "ben@here", "1\r\n");
        p.send("<>", "anna@here", "1\r\n");
        int[] due = {3, 0, 1, -1, -1};
        for (int what = 0; what < due.length; what++) {
            Probe.due("what " + what, p.call().message(0, 0, 0, what), due[what]);
        }
        for (int what : FAR) {
            Probe.due("what " + what, p.call().message(0, 0, 0, what), -1);
        }
    }

    private static void sizes() {
        Probe.sentence("0 its bytes");
        Probe p = Probe.greeted();
        p.send("<>", "anna@here", "");
        p.send("<>", "anna@here", "\r\n");
        Probe.due("none", p.call().message(0, 0, 0, 0), 0);
        Probe.due("an empty line", p.call().message(0, 0, 1, 0), 2);
        p.send("<>", "anna@here", "x".repeat(3998) + "\r\n");
        Probe.due("as many as may be", p.call().message(0, 0, 2, 0), 4000);
    }

    private static void flags() {
        Probe.sentence("1 its flags (1 Seen, 2 Answered, 4 Flagged, 8 Deleted, 16 Draft)");
        String[] names = {"\\Seen", "\\Answered", "\\Flagged", "\\Deleted", "\\Draft"};
        Probe p = Probe.greeted();
        StringBuilder all = new StringBuilder();
        for (int i = 0; i < names.length; i++) {
            all.append(i == 0 ? "" : ",").append(Bench.quoted(names[i]));
            p.activate(0, "require \"imap4flags\";keep :flags " + Bench.quoted(names[i]) + ";");
            p.send("<>", "anna@here", "");
            Probe.due(names[i], p.call().message(0, 0, i, 1), 1 << i);
        }
        p.activate(0, "require \"imap4flags\";keep :flags [" + all + "];");
        p.send("<>", "anna@here", "");
        Probe.due("all of them", p.call().message(0, 0, 5, 1), 31);
        p.activate(0, "keep;");
        p.send("<>", "anna@here", "");
        Probe.due("none of them", p.call().message(0, 0, 6, 1), 0);
    }

    private static void numbers() {
        Probe.sentence("2 its NUMBER in the store (messages of mailboxes and the outbox are numbered together from 0 on, in the order in which they were made)");
        Probe p = new Probe();
        p.activate(0, "require [\"fileinto\",\"copy\"];redirect :copy \"a@b\";fileinto :copy \"x\";redirect :copy \"c@d\";");
        p.greet();
        p.send("<>", "anna@here", "");
        p.send("<>", "dan@here", "");
        p.send("<>", "anna@here", "");
        int[][] due = {{0, 1, 0, 0}, {0, 0, 0, 1}, {3, 0, 0, 4}, {0, 1, 1, 5}, {0, 0, 1, 6}};
        for (int[] row : due) {
            Probe.due("message " + row[2] + " of mailbox " + row[1] + " of user " + row[0], p.call().message(row[0], row[1], row[2], 2), row[3]);
        }
        Probe.due("all of them", p.call().count(0), 9);
    }

    private static void withoutPower() {
        Probe.sentence("all calls but .. questions are refused: message answers without power");
        Probe p = Probe.greeted();
        p.send("<>", "anna@here", "1\r\n");
        p.goDark();
        p.refused("a message", () -> p.call().message(0, 0, 0, 0), 3);
        p.refused("none", () -> p.call().message(0, 0, 1, 0), -1);
    }
}
