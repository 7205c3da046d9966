/** Promise 7: tick. */
public final class TickTest {
    public static void main(String[] args) {
        Probe p = new Probe();
        for (int day = 1; day <= 40; day++) {
            Probe.due("day", p.call().tick(), day);
        }
        Probe.due("the day", p.call().count(3), 40);
        Probe.due("each is a commit", p.call().count(4), 40);
        p.call().cut(2);
        Probe.due("not yet", p.call().tick(), 41);
        Probe.due("cut", p.call().tick(), -1);
        Probe.due("the day stays", p.call().count(3), 41);
        Probe.due("it does not count", p.call().count(4), 41);
        Probe.due("no power", p.call().count(6), 0);
        Probe.due("refused", p.call().tick(), -1);
        Probe.due("start", p.call().start(), 41);
        Probe.due("days go on", p.call().tick(), 42);
        p.call().connect();
        p.call().cut(1);
        p.call().tick();
        Probe.due("the session ends with it", p.call().count(7), 0);
        Probe.end("TickTest");
    }
}
