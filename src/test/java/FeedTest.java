/** Promise 2: feed. */
public final class FeedTest {
    public static void main(String[] args) {
        bytesInOrder();
        fullTape();
        withoutPower();
        Probe.end("FeedTest");
    }

    private static void bytesInOrder() {
        Probe p = new Probe();
        Probe.due("feed", p.call().feed(0x4e4f4f50, 0x0d0a4c49, 0x53545343, 0x52495054, 0x530d0a51), true);
        Probe.due("tape", p.call().count(5), 20);
        Probe.due("feed more", p.call().feed(0x0d0a0000, 0, -1, -1, -1), true);
        Probe.due("tape with more", p.call().count(5), 40);
        Probe.due("manage", p.call().manage(0, 22), 22);
        Probe.due("order of bytes", p.replies(0), "NO \"syntax\"\r\nOK\r\nNO \"syntax\"\r\n");
        Probe.due("tape is empty", p.call().count(5), 0);
    }

    private static void fullTape() {
        Probe p = new Probe();
        for (int i = 0; i < 300; i++) {
            Probe.due("feed " + i, p.call().feed(i, i, i, i, i), true);
        }
        Probe.due("tape", p.call().count(5), 6000);
        Probe.due("one too many", p.call().feed(1, 2, 3, 4, 5), false);
        Probe.due("tape stays", p.call().count(5), 6000);
        Probe.due("all of it", p.call().manage(1, 6000), 6000);
        Probe.due("again", p.call().feed(1, 2, 3, 4, 5), true);
        Probe.due("tape again", p.call().count(5), 20);
    }

    private static void withoutPower() {
        Probe p = new Probe();
        p.call().feed(1, 2, 3, 4, 5);
        p.call().cut(1);
        Probe.due("tick is cut", p.call().tick(), -1);
        Probe.due("feed without power", p.call().feed(1, 2, 3, 4, 5), false);
        Probe.due("tape stays", p.call().count(5), 20);
        p.call().start();
        Probe.due("feed with power", p.call().feed(1, 2, 3, 4, 5), true);
    }
}
