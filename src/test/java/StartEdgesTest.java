/** Promise 9, start: with power, and behind no commits and some. */
public final class StartEdgesTest {
    public static void main(String[] args) {
        withPower();
        commits();
        Probe.end("StartEdgesTest");
    }

    private static void withPower() {
        Probe.sentence("-1, refused, if it is there");
        Probe p = Probe.greeted();
        p.call().tick();
        p.call().cut(2);
        p.post("NO");
        p.command(3, "LOGO");
        p.refused("start", () -> p.call().start(), -1);
        Probe.due("delivery goes on", p.mail("OP\r\n"), "250 2.0.0 ok\r\n");
        Probe.due("a user's session goes on", p.manage(3, "UT\r\n"), "OK\r\n");
        Probe.due("what was said of a cut stands", p.call().tick(), 2);
        Probe.due("and comes", p.call().tick(), -1);
        Probe.due("then it is no refused call", p.call().start(), 2);
        p.refused("start once more", () -> p.call().start(), -1);
    }

    private static void commits() {
        Probe.sentence("The power comes (again): how many commits the store has");
        Probe p = new Probe();
        for (int done = 0; done < 4; done++) {
            p.goDark();
            String before = p.state();
            Probe.due("so many", p.call().start(), done);
            Probe.due("power, and nothing else", p.state(), before.replace(" 6:0 ", " 6:1 "));
            Probe.due("one more", p.call().tick(), done + 1);
        }
    }
}
