/** Promise 14, count: each number at its least and most, and those that are none. */
public final class CountEdgesTest {
    public static void main(String[] args) {
        others();
        store();
        days();
        tape();
        powerAndSession();
        scripts();
        notes();
        boxes();
        Probe.end("CountEdgesTest");
    }

    private static void others() {
        Probe.sentence("-1 for another what");
        Probe p = new Probe();
        for (int what = -45; what < 145; what++) {
            boolean known = what >= 0 && what <= 7 || what >= 10 && what <= 33 && what % 10 <= 3;
            int due = !known ? -1 : what == 6 || what >= 30 ? 1 : 0;
            Probe.due("count " + what, p.call().count(what), due);
        }
        int[] far = {Integer.MIN_VALUE, Integer.MAX_VALUE, 1000, 1010, 256, 65536, -2147483638};
        for (int what : far) {
            Probe.due("count " + what, p.call().count(what), -1);
        }
        p.refused("count 8", () -> p.call().count(8), -1);
    }

    private static void store() {
        Probe.sentence("0 messages in the store (mailboxes and outbox), 1 of them in the outbox, 2 bytes in them, 4 commits that were done");
        Probe p = new Probe();
        p.activate(0, "require [\"fileinto\",\"copy\",\"reject\"];if exists \"r\"{reject \"no\";}elsif exists \"d\"{discard;}else{"
            + "fileinto \"x\";keep;redirect \"a@b\";redirect \"c@d\";}");
        p.greet();
        String[] messages = {"", "d:\r\n", "12345678\r\n", "r:\r\n"};
        int[][] due = {{4, 2, 0, 3}, {4, 2, 0, 4}, {8, 4, 40, 5}, {9, 5, 40 + 33, 6}};
        for (int i = 0; i < messages.length; i++) {
            p.send("<x@y>", "anna@here", messages[i]);
            int[] got = {p.call().count(0), p.call().count(1), p.call().count(2), p.call().count(4)};
            for (int j = 0; j < 4; j++) {
                Probe.due("number " + j + " behind message " + i, got[j], due[i][j]);
            }
        }
    }

    private static void days() {
        Probe.sentence("3 the day");
        Probe p = new Probe();
        p.call().tick();
        p.call().tick();
        Probe.due("two days", p.call().count(3), 2);
        p.goDark();
        Probe.due("without power", p.call().count(3), 2);
    }

    private static void tape() {
        Probe.sentence("5 bytes of the tape");
        Probe p = new Probe();
        for (int i = 1; i <= 3; i++) {
            p.call().feed(0, 0, 0, 0, 0);
            Probe.due("behind feed " + i, p.call().count(5), 20 * i);
        }
        p.call().manage(0, 0);
        Probe.due("empty", p.call().count(5), 0);
    }

    private static void powerAndSession() {
        Probe.sentence("6 whether there is power (1), 7 whether there is a session of delivery (1)");
        Probe p = new Probe();
        Probe.due("power, no session", p.call().count(6) * 10 + p.call().count(7), 10);
        p.call().connect();
        Probe.due("power, a session", p.call().count(6) * 10 + p.call().count(7), 11);
        p.goDark();
        Probe.due("neither", p.call().count(6) * 10 + p.call().count(7), 0);
        p.call().start();
        Probe.due("power again", p.call().count(6) * 10 + p.call().count(7), 10);
    }

    private static void scripts() {
        Probe.sentence("10 .. 13 scripts of a user");
        Probe p = new Probe();
        for (int user = 0; user < 4; user++) {
            for (int i = 0; i <= user; i++) {
                p.command(user, "PUTSCRIPT \"" + i + "\" \"\"\r\n");
            }
        }
        for (int user = 0; user < 4; user++) {
            Probe.due("user " + user, p.call().count(10 + user), user + 1);
        }
        p.command(3, "PUTSCRIPT \"4\" \"\"\r\nPUTSCRIPT \"3\" \"keep;\"\r\n");
        Probe.due("no fifth one", p.call().count(13), 4);
        p.command(0, "DELETESCRIPT \"0\"\r\n");
        Probe.due("none again", p.call().count(10), 0);
    }

    private static void notes() {
        Probe.sentence("20 .. 23 notes of vacation");
        String[] users = {"anna@here", "ben@here", "cleo@here", "dan@here"};
        Probe p = Probe.greeted();
        for (int user = 0; user < 4; user++) {
            p.activate(user, "require \"vacation\";vacation \"x\";");
            for (int i = 0; i < user; i++) {
                p.post("MAIL FROM:<s" + i + "@x>\r\nRCPT TO:<" + users[user] + ">\r\nDATA\r\nTo: " + users[user] + "\r\n.\r\n");
            }
        }
        for (int user = 0; user < 4; user++) {
            Probe.due("user " + user, p.call().count(20 + user), user);
        }
    }

    private static void boxes() {
        Probe.sentence("30 .. 33 mailboxes");
        String[] users = {"anna@here", "ben@here", "cleo@here", "dan@here"};
        Probe p = Probe.greeted();
        for (int user = 0; user < 4; user++) {
            p.activate(user, "require \"fileinto\";" + "fileinto \"a\";fileinto \"b\";fileinto \"c\";fileinto \"d\";fileinto \"e\";".substring(0, user * 13 + 26));
            p.send("<>", users[user], "");
        }
        for (int user = 0; user < 4; user++) {
            Probe.due("user " + user, p.call().count(30 + user), user + 3);
        }
    }
}
