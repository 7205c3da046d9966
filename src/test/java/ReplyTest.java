/** Promise 6: reply. */
public final class ReplyTest {
    public static void main(String[] args) {
        taking();
        withoutPower();
        manyWaiting();
        Probe.end("ReplyTest");
    }

    private static void taking() {
        Probe p = new Probe();
        p.command(2, "LOGOUT\r\nLOGOUT\r\n");
        Probe.due("seven", p.call().reply(2), 0x074f4b0d0a4f4b0dL);
        Probe.due("the last one", p.call().reply(2), 0x010a000000000000L);
        Probe.due("none", p.call().reply(2), 0L);
        Probe.due("no session", p.call().reply(5), 0L);
        Probe.due("below 0", p.call().reply(-1), 0L);
        Probe.due("another user's", p.call().reply(1), 0L);
        p.command(0, "PUTSCRIPT \"a\" {3+}\r\n#\u00fe\u00ff\r\n");
        p.command(0, "GETSCRIPT \"a\"\r\n");
        Probe.due("bytes above 127", p.replies(0), "OK\r\n{3}\r\n#\u00fe\u00ff\r\nOK\r\n");
    }

    private static void withoutPower() {
        Probe p = new Probe();
        p.command(2, "LOGOUT\r\n");
        p.call().connect();
        p.call().cut(1);
        p.call().tick();
        Probe.due("without power", p.call().reply(2), 0x044f4b0d0a000000L);
        p.call().start();
        Probe.due("of delivery, after a start", p.replies(4), "220 here LMTP\r\n");
    }

    private static void manyWaiting() {
        Probe p = new Probe();
        String script = "#123456789".repeat(199);
        String one = "{1990}\r\n" + script + "\r\nOK\r\n";
        Probe.due("put", p.manage(0, "PUTSCRIPT \"a\" " + Probe.literal(script) + "\r\n"), "OK\r\n");
        for (int i = 0; i < 6; i++) {
            p.command(0, "GETSCRIPT \"a\"\r\n");
        }
        StringBuilder first = new StringBuilder();
        for (int i = 0; i < 100; i++) {
            append(first, p.call().reply(0));
        }
        Probe.due("the first 700", first.toString(), one.substring(0, 700));
        p.command(0, "LISTSCRIPTS\r\n");
        Probe.due("other sessions have room", p.manage(1, "LOGOUT\r\n"), "OK\r\n");
        // 10000 bytes can't be taken with 512 calls: the last ones are read by calls that the document leaves free.
        StringBuilder rest = new StringBuilder();
        for (int i = 0; i < 2000; i++) {
            append(rest, p.mail.reply(0));
        }
        String due = one.repeat(6).substring(700, 10000) + "\"a\"\r\nOK\r\n";
        Probe.due("how many there were", rest.length(), due.length());
        Probe.due("what was beyond is left out", rest.toString().equals(due), true);
    }

    private static void append(StringBuilder all, long seven) {
        for (int j = 0; j < (int) (seven >>> 56); j++) {
            all.append((char) (seven >> 8 * (6 - j) & 255));
        }
    }
}
