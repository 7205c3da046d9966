/** Promise 5, manage: which users there are, how many bytes are asked for and looked at. */
public final class ManageEdgesTest {
    private static final String OK = "OK\r\n";

    public static void main(String[] args) {
        users();
        firstBytes();
        numbers();
        noPower();
        powerGoes();
        Probe.end("ManageEdgesTest");
    }

    private static void users() {
        Probe.sentence("to the session of a user, 0 .. 3. -1, refused, if there is no such user");
        Probe p = new Probe();
        p.feed("LOGOUT\r\n");
        int[] wrong = {-1, 4, Integer.MIN_VALUE, Integer.MAX_VALUE};
        for (int user : wrong) {
            p.refused("user " + user, () -> p.call().manage(user, 8), -1);
        }
        Probe.due("the first one", p.call().manage(0, 8), 8);
        Probe.due("the tape was as before", p.replies(0), OK);
        p.command(3, "LOGOUT\r\n");
        Probe.due("the last one", p.replies(3), OK);
        Probe.due("no other one", p.replies(0) + p.replies(1) + p.replies(2) + p.replies(4), "");
    }

    private static void firstBytes() {
        Probe.sentence("Likewise: the first n bytes of the tape come; the whole tape is empty then");
        Probe p = new Probe();
        p.feed("LOGOUT\r\nLOGOUT\r\nLOGO");
        Probe.due("none", p.call().manage(1, 0), 0);
        Probe.due("no answer", p.replies(1), "");
        Probe.due("the tape is empty", p.call().count(5), 0);
        p.feed("LOGOUT\r\nLOGOUT\r\nLOGO");
        Probe.due("all but one", p.call().manage(1, 19), 19);
        Probe.due("the tape is empty again", p.call().count(5), 0);
        Probe.due("the last byte did not come", p.manage(1, "OUT\r\n"), OK + OK + OK);
        p.feed("LOGOUT\r\nLOGOUT\r\nLOGO");
        Probe.due("all", p.call().manage(1, 20), 20);
        Probe.due("the last byte came", p.manage(1, "UT\r\n"), OK + OK + OK);
    }

    private static void numbers() {
        Probe.sentence("-1, refused, .. if n is not 0 .. the bytes that there are");
        Probe p = new Probe();
        p.command(2, "LOG");
        p.feed("OUT\r\n123456789012345");
        int[] wrong = {-1, 21, Integer.MIN_VALUE, Integer.MAX_VALUE};
        for (int n : wrong) {
            p.refused("manage " + n, () -> p.call().manage(2, n), -1);
        }
        Probe.due("what there is", p.call().manage(2, 5), 5);
        Probe.due("command and tape were as before", p.replies(2), OK);
        p.refused("one of none", () -> p.call().manage(2, 1), -1);
        Probe.due("none of none", p.call().manage(2, 0), 0);
    }

    private static void noPower() {
        Probe.sentence("-1, refused, if there is .. no power");
        Probe p = new Probe();
        p.goDark();
        for (int user = 0; user < 4; user++) {
            Probe.due("none to " + user, p.call().manage(user, 0), -1);
        }
        p.refused("none", () -> p.call().manage(0, 0), -1);
        p.call().start();
        Probe.due("none, with power", p.call().manage(0, 0), 0);
    }

    private static void powerGoes() {
        Probe.sentence("Likewise: how many were looked at till the power's end, with the one that brought it (all, if it stays)");
        String change = "SETACTIVE \"\"\r\n";
        for (int cut = 1; cut <= 3; cut++) {
            Probe p = new Probe();
            p.call().cut(cut);
            p.feed(change + change + "LOGOUT\r\n");
            int due = cut == 3 ? 36 : cut * 14;
            Probe.due("cut " + cut, p.call().manage(0, 36), due);
            Probe.due("the tape is empty", p.call().count(5), 0);
            Probe.due("answers", p.replies(0), OK.repeat(cut == 3 ? 3 : cut - 1));
        }
        Probe last = new Probe();
        last.call().cut(1);
        last.feed(change);
        Probe.due("the last byte but one brings nothing", last.call().manage(0, 13), 13);
        Probe.due("power stays", last.call().count(6), 1);
        last.feed("\n");
        Probe.due("the last byte brings it", last.call().manage(0, 1), 1);
        Probe.due("power goes", last.call().count(6), 0);
    }
}
