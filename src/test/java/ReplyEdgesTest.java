/** Promise 6, reply: six, seven and eight bytes that wait, none, and sessions that there are not. */
public final class ReplyEdgesTest {
    public static void main(String[] args) {
        atMostSeven();
        none();
        sessions();
        tenThousand();
        withoutPower();
        Probe.end("ReplyEdgesTest");
    }

    private static void atMostSeven() {
        Probe.sentence("The next bytes of what was answered, at most 7, which are taken: in the highest byte how many, then these, the first one highest");
        Probe p = new Probe();
        p.command(0, "LOGOUT\r\n".repeat(7));
        long[] due = {0x074f4b0d0a4f4b0dL, 0x070a4f4b0d0a4f4bL, 0x070d0a4f4b0d0a4fL, 0x074b0d0a4f4b0d0aL, 0L};
        for (long seven : due) {
            Probe.due("28 bytes", p.call().reply(0), seven);
        }
        p.command(0, "LOGOUT\r\n");
        Probe.due("four", p.call().reply(0), 0x044f4b0d0a000000L);
        Probe.due("then none", p.call().reply(0), 0L);
        p.command(0, "LOGOUT\r\nLOGOUT\r\n");
        Probe.due("seven of eight", p.call().reply(0), 0x074f4b0d0a4f4b0dL);
        Probe.due("the eighth", p.call().reply(0), 0x010a000000000000L);
        p.command(0, "PUTSCRIPT \"a\" {8+}\r\n#\u00ff\u00ff\u00ff\u00ff\u00ff\u00ff\u00ff\r\nGETSCRIPT \"a\"\r\n");
        Probe.due("up to the script", p.call().reply(0), 0x074f4b0d0a7b387dL);
        Probe.due("its first bytes", p.call().reply(0), 0x070d0a23ffffffffL);
        Probe.due("its last bytes", p.call().reply(0), 0x07ffffff0d0a4f4bL);
    }

    private static void none() {
        Probe.sentence("0 if there are none");
        Probe p = new Probe();
        for (int session = 0; session < 5; session++) {
            int asked = session;
            p.refused("session " + session, () -> p.call().reply(asked), 0L);
        }
        p.command(0, "LOGOUT");
        Probe.due("of half a command", p.call().reply(0), 0L);
    }

    private static void sessions() {
        Probe.sentence("of delivery 4, of a user's session 0 .. 3");
        Probe p = new Probe();
        String[] commands = {"LOGOUT\r\n", "FOO\r\n", "SETACTIVE \"a\"\r\n", "HAVESPACE \"a\" 2001\r\n"};
        String[] answers = {"OK\r\n", "NO \"syntax\"\r\n", "NO \"none\"\r\n", "NO \"space\"\r\n"};
        for (int user = 0; user < 4; user++) {
            p.command(user, commands[user]);
        }
        p.call().connect();
        int[] wrong = {-1, 5, Integer.MIN_VALUE, Integer.MAX_VALUE};
        for (int session : wrong) {
            Probe.due("session " + session, p.call().reply(session), 0L);
        }
        Probe.due("of delivery", p.replies(4), "220 here LMTP\r\n");
        for (int user = 0; user < 4; user++) {
            Probe.due("of user " + user, p.replies(user), answers[user]);
        }
    }

    private static void tenThousand() {
        Probe.sentence("10000 bytes of each wait at most; bytes beyond are left out");
        String noop = "250 2.0.0 ok\r\n";
        Probe p = Probe.greeted();
        p.post("NOOP\r\n".repeat(1000));
        Probe.due("the first seven of 10000", p.call().reply(4), 0x0732353020322e30L);
        p.post("NOOP\r\nNOOP\r\n");
        p.command(2, "LOGOUT\r\n");
        Probe.due("another session's", p.replies(2), "OK\r\n");
        // 10000 bytes can't be taken with 512 calls: the rest is read by calls that the document leaves free.
        StringBuilder all = new StringBuilder();
        for (int i = 0; i < 1500; i++) {
            long seven = p.mail.reply(4);
            for (int j = 0; j < seven >>> 56; j++) {
                all.append((char) (seven >> 8 * (6 - j) & 255));
            }
        }
        Probe.due("how many there were", all.length(), 10000);
        Probe.due("10000 of 14000 bytes, and seven of the next ones", all.toString(), noop.repeat(715).substring(7, 10000) + noop.substring(0, 7));
    }

    private static void withoutPower() {
        Probe.sentence("all calls but start(), cut(), reply() and questions are refused: reply is not, without power");
        Probe p = new Probe();
        p.command(3, "LOGOUT\r\nLOGOUT\r\n");
        p.goDark();
        Probe.due("before start", p.call().reply(3), 0x074f4b0d0a4f4b0dL);
        p.call().start();
        Probe.due("what was taken stays so", p.call().reply(3), 0x010a000000000000L);
        Probe.due("then none", p.call().reply(3), 0L);
    }
}
