/** Promise 1, a new object: what is empty is empty to every call. */
public final class NewObjectEdgesTest {
    public static void main(String[] args) {
        emptyStore();
        emptySessions();
        dayZero();
        noSession();
        Probe.end("NewObjectEdgesTest");
    }

    private static void emptyStore() {
        Probe.sentence("An empty store");
        Probe p = new Probe();
        Probe.due("first message of the store", p.call().bytes(0, 0), -1L);
        Probe.due("first message of the outbox", p.call().name(4, 0, 0), -1L);
        for (int user = 0; user < 4; user++) {
            Probe.due("INBOX is there", p.name(user, 0), "INBOX");
            Probe.due("INBOX is empty", p.call().messages(user, 0), 0);
            Probe.due("no other mailbox", p.call().messages(user, 1), -1);
            Probe.due("no name of another mailbox", p.call().name(user, 1, 0), -1L);
            for (int what = 0; what < 3; what++) {
                Probe.due("no message in INBOX", p.call().message(user, 0, 0, what), -1);
            }
        }
    }

    private static void emptySessions() {
        Probe.sentence("An empty store: no scripts, no answers");
        Probe p = new Probe();
        for (int session = 0; session < 5; session++) {
            Probe.due("nothing was answered", p.call().reply(session), 0L);
        }
        for (int user = 0; user < 4; user++) {
            Probe.due("no script", p.manage(user, "LISTSCRIPTS\r\n"), "OK\r\n");
        }
    }

    private static void dayZero() {
        Probe.sentence("day 0");
        Probe p = new Probe();
        Probe.due("the day", p.call().count(3), 0);
        Probe.due("no commit", p.call().count(4), 0);
        Probe.due("the day behind it", p.call().tick(), 1);
    }

    private static void noSession() {
        Probe.sentence("no session of delivery");
        Probe p = new Probe();
        Probe.due("asked", p.call().count(7), 0);
        p.refused("mail", () -> p.call().mail(0), -1);
        Probe.due("there is power", p.call().count(6), 1);
        p.refused("start", () -> p.call().start(), -1);
        Probe.due("an empty tape", p.call().count(5), 0);
        Probe.due("a user's session is open", p.call().manage(0, 0), 0);
    }
}
