/** Promise 2, feed: the first and last byte, a full tape, no power. */
public final class FeedEdgesTest {
    public static void main(String[] args) {
        everyByte();
        fullTape();
        withoutPower();
        Probe.end("FeedEdgesTest");
    }

    private static void everyByte() {
        Probe.sentence("20 bytes come behind the tape, the highest of a first");
        StringBuilder script = new StringBuilder("#");
        for (int b = 0; b < 256; b++) {
            script.append(b == 10 ? '#' : (char) b);
        }
        Probe p = new Probe();
        Probe.due("each byte, 0 to 255", p.manage(0, "PUTSCRIPT \"a\" " + Probe.literal(script.toString()) + "\r\nGETSCRIPT \"a\"\r\n"),
            "OK\r\n{257}\r\n" + script + "\r\nOK\r\n");
        Probe.due("empty tape", p.call().count(5), 0);
        Probe.due("numbers below 0", p.call().feed(-1, Integer.MIN_VALUE, Integer.MAX_VALUE, 0, -1), true);
        Probe.due("20 bytes each time", p.call().count(5), 20);
    }

    private static void fullTape() {
        Probe.sentence("false .. if more than 6000 would be there");
        Probe p = new Probe();
        String text = "LOGOUT\r\n" + "x".repeat(5982) + "\r\nLOGOUT\r\n";
        p.feed(text.substring(0, 5980));
        Probe.due("room for 20 bytes", p.call().count(5), 5980);
        p.feed(text.substring(5980));
        Probe.due("a full tape", p.call().count(5), 6000);
        p.refused("one more", () -> p.call().feed(0x4c4f474f, 0x55540d0a, 0x0d0a0d0a, 0, 0), false);
        p.refused("again", () -> p.call().feed(0, 0, 0, 0, 0), false);
        Probe.due("all of it", p.call().manage(0, 6000), 6000);
        Probe.due("as it was fed", p.replies(0), "OK\r\nNO \"syntax\"\r\nOK\r\n");
        Probe.due("room again", p.call().feed(1, 2, 3, 4, 5), true);
        Probe.due("the tape then", p.call().count(5), 20);
    }

    private static void withoutPower() {
        Probe.sentence("false without power");
        Probe p = new Probe();
        p.goDark();
        p.refused("feed", () -> p.call().feed(1, 2, 3, 4, 5), false);
        p.call().start();
        Probe.due("nothing of it was fed", p.manage(0, "LOGOUT\r\n"), "OK\r\n");
    }
}
