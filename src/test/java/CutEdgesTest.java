/** Promise 8, cut: the numbers that it takes, and which commit it is. */
public final class CutEdgesTest {
    public static void main(String[] args) {
        numbers();
        none();
        theKth();
        inPlaceOf();
        withoutPower();
        notDone();
        fullTapeOfCommits();
        Probe.end("CutEdgesTest");
    }

    private static void numbers() {
        Probe.sentence("if k is 1 .. 1000; none is, for 0: true; false for another k");
        Probe p = new Probe();
        int[] right = {1, 2, 999, 1000, 0};
        for (int k : right) {
            p.refused("cut " + k + " changes no answer", () -> p.call().cut(k), true);
        }
        int[] wrong = {-1, 1001, Integer.MIN_VALUE, Integer.MAX_VALUE};
        for (int k : wrong) {
            p.call().cut(2);
            Probe.due("cut " + k, p.call().cut(k), false);
            int day = p.call().count(3);
            Probe.due("what was said stands: one commit", p.call().tick(), day + 1);
            Probe.due("what was said stands: the second one", p.call().tick(), -1);
            p.call().start();
        }
    }

    private static void none() {
        Probe.sentence("none is, for 0");
        Probe p = new Probe();
        p.call().cut(0);
        Probe.due("first", p.call().tick(), 1);
        p.call().cut(2);
        p.call().tick();
        p.call().cut(0);
        for (int day = 3; day < 60; day++) {
            Probe.due("none", p.call().tick(), day);
        }
    }

    private static void theKth() {
        Probe.sentence("The k-th commit from now on is cut");
        for (int k = 1; k <= 5; k++) {
            Probe p = new Probe();
            p.call().tick();
            p.call().cut(k);
            for (int i = 1; i < k; i++) {
                Probe.due("commit " + i + " of " + k, p.call().tick(), i + 1);
            }
            Probe.due("commit " + k, p.call().tick(), -1);
            p.call().start();
            for (int i = 0; i < 10; i++) {
                Probe.due("only that one", p.call().tick(), k + i + 1);
            }
        }
    }

    private static void inPlaceOf() {
        Probe.sentence("in place of what was said before");
        int[][] rows = {{1, 3}, {3, 1}, {1000, 2}, {2, 1000}, {5, 5}};
        for (int[] row : rows) {
            Probe p = new Probe();
            p.call().cut(row[0]);
            p.call().cut(row[1]);
            int done = 0;
            while (done < 20 && p.call().tick() > 0) {
                done++;
            }
            Probe.due(row[0] + ", then " + row[1], done, Math.min(20, row[1] - 1));
        }
    }

    private static void withoutPower() {
        Probe.sentence("said without power, from start() on");
        Probe p = new Probe();
        p.goDark();
        Probe.due("said", p.call().cut(1), true);
        Probe.due("no start of its own", p.call().count(6), 0);
        Probe.due("refused ones are no commits", p.call().tick(), -1);
        Probe.due("start", p.call().start(), 0);
        Probe.due("start is no commit", p.call().count(6), 1);
        Probe.due("the first one", p.call().tick(), -1);
        p.call().cut(2);
        Probe.due("refused without power, too", p.call().cut(1001), false);
        p.call().start();
        Probe.due("one", p.call().tick(), 1);
        Probe.due("the second one", p.call().tick(), -1);
        p.call().cut(1);
        p.call().cut(0);
        p.call().start();
        Probe.due("none, said without power", p.call().tick(), 2);
    }

    private static void notDone() {
        Probe.sentence("is not done, and does not count");
        Probe p = new Probe();
        p.goDark();
        Probe.due("commits", p.call().count(4), 0);
        p.call().start();
        p.goDark();
        Probe.due("commits of two starts", p.call().start(), 0);
        Probe.due("the day", p.call().count(3), 0);
    }

    private static void fullTapeOfCommits() {
        Probe.sentence("The k-th commit: more than a tape holds");
        Probe p = new Probe();
        String change = "SETACTIVE \"\"\r\n";
        p.call().cut(500);
        p.feed(change.repeat(428));
        Probe.due("428 commits", p.call().manage(1, 5992), 5992);
        Probe.due("are counted", p.call().count(4), 428);
        p.feed(change.repeat(80));
        Probe.due("72 more", p.call().manage(1, 1120), 72 * 14);
        Probe.due("the last one does not count", p.call().count(4), 499);
    }
}
