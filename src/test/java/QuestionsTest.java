/** Promises 10 to 14: messages, message, bytes, name, count. */
public final class QuestionsTest {
    private static final String SCRIPT = "require [\"fileinto\",\"imap4flags\",\"copy\"];if header \"x\" \"1\" {"
        + "fileinto :flags [\"\\\\Seen\",\"\\\\ANSWERED\"] \"Second\";fileinto \"12345678901234567890\";redirect \"Me.x@far-away.net\";}"
        + "elsif header \"x\" \"2\" {fileinto :flags [\"\\\\Flagged\",\"\\\\Deleted\",\"\\\\Draft\",\"\\\\Other\"] :copy \"Second\";}";
    private static final String ONE = "x: 1\r\n\r\n1234567\u00ff\r\n";
    private static final String TWO = "x: 2\r\n";

    public static void main(String[] args) {
        Probe p = new Probe();
        p.activate(2, SCRIPT);
        p.greet();
        p.send("<>", "cleo@here", ONE);
        p.send("<>", "cleo@here", TWO);
        p.send("<>", "anna@here", TWO);
        messages(p);
        message(p);
        bytes(p);
        name(p);
        count(p);
        Probe.end("QuestionsTest");
    }

    private static void messages(Probe p) {
        int[][] due = {{2, 0, 1}, {2, 1, 2}, {2, 2, 1}, {2, 3, -1}, {2, -1, -1}, {0, 0, 1}, {0, 1, -1}, {1, 0, 0}, {3, 0, 0}, {4, 0, -1}, {-1, 0, -1}};
        for (int[] row : due) {
            Probe.due("messages " + row[0] + " " + row[1], p.call().messages(row[0], row[1]), row[2]);
        }
    }

    private static void message(Probe p) {
        int[][] due = {{2, 1, 0, 0, ONE.length()}, {2, 1, 0, 1, 3}, {2, 1, 0, 2, 0}, {2, 1, 1, 0, TWO.length()}, {2, 1, 1, 1, 28}, {2, 1, 1, 2, 3},
            {2, 2, 0, 2, 1}, {2, 2, 0, 1, 0}, {2, 0, 0, 2, 4}, {2, 0, 0, 1, 0}, {0, 0, 0, 2, 5}, {2, 1, 2, 0, -1}, {2, 1, -1, 0, -1}, {2, 1, 0, 3, -1},
            {2, 1, 0, -1, -1}, {2, 3, 0, 0, -1}, {2, -1, 0, 0, -1}, {4, 0, 0, 0, -1}, {-1, 0, 0, 0, -1}, {1, 0, 0, 0, -1}};
        for (int[] row : due) {
            Probe.due("message " + row[0] + " " + row[1] + " " + row[2] + " " + row[3], p.call().message(row[0], row[1], row[2], row[3]), row[4]);
        }
    }

    private static void bytes(Probe p) {
        Probe.due("from 0", p.call().bytes(0, 0), 0x783a20310d0a0d0aL);
        Probe.due("from 8", p.call().bytes(0, 8), 0x31323334353637ffL);
        Probe.due("from 15", p.call().bytes(0, 15), 0xff0d0a0000000000L);
        Probe.due("behind its end", p.call().bytes(0, 18), 0L);
        Probe.due("far behind it", p.call().bytes(0, Integer.MAX_VALUE), 0L);
        Probe.due("below 0", p.call().bytes(0, -1), -1L);
        Probe.due("of the outbox", p.call().bytes(2, 0), 0x783a20310d0a0d0aL);
        Probe.due("the last one", p.call().bytes(5, 0), 0x783a20320d0a0000L);
        Probe.due("none", p.call().bytes(6, 0), -1L);
        Probe.due("none below 0", p.call().bytes(-1, 0), -1L);
    }

    private static void name(Probe p) {
        Probe.due("INBOX", p.name(2, 0), "INBOX");
        Probe.due("as it was written", p.name(2, 1), "Second");
        Probe.due("20 bytes", p.name(2, 2), "12345678901234567890");
        Probe.due("from 1", p.call().name(2, 1, 1), 0x65636f6e64000000L);
        Probe.due("from 16", p.call().name(2, 2, 16), 0x3738393000000000L);
        Probe.due("behind its end", p.call().name(2, 1, 6), 0L);
        Probe.due("far behind it", p.call().name(2, 1, Integer.MAX_VALUE), 0L);
        Probe.due("below 0", p.call().name(2, 1, -1), -1L);
        Probe.due("no mailbox", p.call().name(2, 3, 0) + p.call().name(2, -1, 0) + p.call().name(0, 1, 0), -3L);
        Probe.due("the outbox", p.name(4, 0), "Me.x@far-away.net");
        Probe.due("the outbox, behind its end", p.call().name(4, 0, 100), 0L);
        Probe.due("none in the outbox", p.call().name(4, 1, 0) + p.call().name(4, -1, 0) + p.call().name(4, 0, -1), -3L);
        Probe.due("no such user", p.call().name(5, 0, 0) + p.call().name(-1, 0, 0), -2L);
    }

    private static void count(Probe p) {
        p.feed("x");
        int[][] due = {{0, 6}, {1, 1}, {2, 3 * ONE.length() + 3 * TWO.length()}, {3, 0}, {4, 5}, {5, 20}, {6, 1}, {7, 1}, {8, -1}, {9, -1}, {10, 0}, {12, 1}, {13, 0},
            {14, -1}, {19, -1}, {22, 0}, {24, -1}, {30, 1}, {32, 3}, {33, 1}, {34, -1}, {40, -1}, {-1, -1}, {-10, -1}, {110, -1}, {Integer.MIN_VALUE, -1}};
        for (int[] row : due) {
            Probe.due("count " + row[0], p.call().count(row[0]), row[1]);
        }
    }
}
