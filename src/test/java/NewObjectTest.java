/** Promise 1: a new object. */
public final class NewObjectTest {
    public static void main(String[] args) {
        SortedMail x = new SortedMail();
        int[] counts = {0, 0, 0, 0, 0, 0, 1, 0, -1, -1, 0, 0, 0, 0, -1};
        for (int what = 0; what < counts.length; what++) {
            Probe.due("count " + what, x.count(what), counts[what]);
        }
        for (int user = 0; user < 4; user++) {
            Probe.due("notes of " + user, x.count(20 + user), 0);
            Probe.due("mailboxes of " + user, x.count(30 + user), 1);
            Probe.due("INBOX of " + user, x.messages(user, 0), 0);
            Probe.due("name of INBOX of " + user, x.name(user, 0, 0), 0x494e424f58000000L);
        }
        for (int session = 0; session <= 4; session++) {
            Probe.due("answers of " + session, x.reply(session), 0L);
        }
        Probe.due("mail without a session", x.mail(0), -1);
        Probe.due("start with power", x.start(), -1);
        Probe.due("session for scripts is open", x.manage(3, 0), 0);
        separateObjects();
        Probe.end("NewObjectTest");
    }

    private static void separateObjects() {
        Probe one = new Probe();
        SortedMail other = new SortedMail();
        one.activate(0, "keep;");
        one.greet();
        one.send("<>", "anna@here", "a\r\n");
        one.call().tick();
        Probe.due("messages of another object", other.count(0), 0);
        Probe.due("scripts of another object", other.count(10), 0);
        Probe.due("day of another object", other.count(3), 0);
        Probe.due("commits of another object", other.count(4), 0);
    }
}
