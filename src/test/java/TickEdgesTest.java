/** Promise 7, tick: the first day, without power, and the power that goes. */
public final class TickEdgesTest {
    public static void main(String[] args) {
        aDayGoesBy();
        withoutPower();
        ifItGoes();
        Probe.end("TickEdgesTest");
    }

    private static void aDayGoesBy() {
        Probe.sentence("A day goes by: the day it is now");
        Probe p = new Probe();
        String before = p.state();
        Probe.due("the first", p.call().tick(), 1);
        Probe.due("nothing but day and commit", p.state(), before.replace(" 3:0 4:0 ", " 3:1 4:1 "));
        for (int day = 2; day <= 300; day++) {
            Probe.due("the next", p.call().tick(), day);
        }
        Probe.due("the day", p.call().count(3), 300);
    }

    private static void withoutPower() {
        Probe.sentence("-1 without power (refused)");
        Probe p = new Probe();
        p.call().tick();
        p.goDark();
        p.refused("tick", () -> p.call().tick(), -1);
        p.refused("again", () -> p.call().tick(), -1);
        p.call().start();
        Probe.due("with power", p.call().tick(), 2);
    }

    private static void ifItGoes() {
        Probe.sentence("-1 .. if it goes (the day stays)");
        Probe p = Probe.greeted();
        p.call().tick();
        p.call().cut(1);
        String before = p.state();
        Probe.due("tick", p.call().tick(), -1);
        Probe.due("power and session have gone, the day stays", p.state(), before.replace(" 6:1 7:1 ", " 6:0 7:0 "));
        Probe.due("start", p.call().start(), 1);
        Probe.due("the day behind start", p.call().count(3), 1);
    }
}
