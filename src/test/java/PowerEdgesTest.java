/** The store: each commit is whole, and what a cut of power leaves and takes. */
public final class PowerEdgesTest {
    private static final String OK = "OK\r\n";

    public static void main(String[] args) {
        oneCommitEach();
        noCommits();
        changesAreCut();
        recipientsAreCut();
        aheadOfItsAnswer();
        sessionsEnd();
        refusedTillStart();
        whatIsThere();
        daysGoOn();
        ownMemory();
        Probe.end("PowerEdgesTest");
    }

    private static void oneCommitEach() {
        Probe.sentence("Each recipient's actions, and each change (PUTSCRIPT, SETACTIVE, DELETESCRIPT, RENAMESCRIPT that are answered OK) is one COMMIT");
        Probe p = new Probe();
        String[] changes = {"PUTSCRIPT \"a\" \"\"\r\n", "PUTSCRIPT \"a\" \"\"\r\n", "RENAMESCRIPT \"a\" \"b\"\r\n", "SETACTIVE \"b\"\r\n", "SETACTIVE \"b\"\r\n", "SETACTIVE \"\"\r\n", "DELETESCRIPT \"b\"\r\n"};
        for (int i = 0; i < changes.length; i++) {
            Probe.due(changes[i], p.manage(2, changes[i]), OK);
            Probe.due("one more", p.call().count(4), i + 1);
        }
        p.activate(0, Bench.ALL + "fileinto \"a\";fileinto \"b\";keep;redirect \"a@b\";vacation \"v\";");
        p.activate(1, "discard;");
        p.activate(2, Bench.ALL + "keep;reject \"fails\";");
        p.greet();
        int before = p.call().count(4);
        p.mail("MAIL FROM:<x@y>\r\nRCPT TO:<anna@here>\r\nRCPT TO:<ben@here>\r\nRCPT TO:<cleo@here>\r\nRCPT TO:<dan@here>\r\nDATA\r\nTo: anna@here\r\n.\r\n");
        Probe.due("four recipients", p.call().count(4), before + 4);
        Probe.due("their messages", p.call().count(0), 7);
        p.call().tick();
        Probe.due("a day", p.call().count(4), before + 5);
    }

    private static void noCommits() {
        Probe.sentence("that are answered OK: what is refused, and what changes nothing, is none");
        Probe p = new Probe();
        p.activate(0, "discard;");
        p.call().cut(1);
        p.manage(0, "PUTSCRIPT \"x\" \"foo\"\r\nPUTSCRIPT \"\" \"\"\r\nCHECKSCRIPT \"\"\r\nSETACTIVE \"no\"\r\nDELETESCRIPT \"s\"\r\nDELETESCRIPT \"no\"\r\nRENAMESCRIPT \"s\" \"s\"\r\n"
            + "RENAMESCRIPT \"no\" \"x\"\r\nHAVESPACE \"a\" 1\r\nGETSCRIPT \"s\"\r\nLISTSCRIPTS\r\nLOGOUT\r\nFOO\r\n?\r\n");
        p.greet();
        p.mail("MAIL FROM:<>\r\nRCPT TO:<anna@here>\r\nRCPT TO:<eve@here>\r\nNOOP\r\nRSET\r\nDATA\r\nQUIT\r\n");
        p.call().cut(1001);
        p.call().start();
        Probe.due("power stays", p.call().count(6), 1);
        Probe.due("two commits, as before", p.call().count(4), 2);
        Probe.due("the next one is cut", p.call().tick(), -1);
        Probe big = Probe.greeted();
        big.call().cut(1);
        Probe.due("too big", big.mail("MAIL FROM:<>\r\nRCPT TO:<anna@here>\r\nDATA\r\n" + "x".repeat(4000) + "\r\n.\r\n"), "250 2.1.0 ok\r\n250 2.1.5 ok\r\n354 go\r\n552 5.3.4 too big\r\n");
        Probe.due("is none", big.call().count(6), 1);
        Probe full = new Probe();
        full.activate(3, Bench.ALL + "fileinto \"1\";fileinto \"2\";fileinto \"3\";fileinto \"4\";fileinto \"5\";keep;redirect \"a@b\";redirect \"b@b\";redirect \"c@b\";redirect \"d@b\";");
        full.greet();
        full.post("MAIL FROM:<>\r\n" + "RCPT TO:<dan@here>\r\n".repeat(4) + "DATA\r\n" + "z".repeat(3748) + "\r\n.\r\n");
        full.replies(4);
        full.call().cut(1);
        Probe.due("full", full.send("<>", "anna@here", "\r\n"), "452 4.2.2 full\r\n");
        Probe.due("is none, either", full.call().count(6), 1);
    }

    private static void changesAreCut() {
        Probe.sentence("the k-th commit .. is not done, and does not count: the power goes in its midst (changes of scripts)");
        String list = "LISTSCRIPTS\r\nGETSCRIPT \"a\"\r\nGETSCRIPT \"c\"\r\n";
        String[] changes = {"PUTSCRIPT \"a\" \"stop;\"\r\n", "PUTSCRIPT \"c\" \"\"\r\n", "SETACTIVE \"a\"\r\n", "SETACTIVE \"\"\r\n", "DELETESCRIPT \"a\"\r\n", "RENAMESCRIPT \"a\" \"c\"\r\n"};
        Probe p = new Probe();
        p.manage(0, "PUTSCRIPT \"a\" \"keep;\"\r\nPUTSCRIPT \"b\" \"\"\r\nSETACTIVE \"b\"\r\n");
        String before = p.manage(0, list);
        for (String change : changes) {
            p.call().cut(1);
            p.feed(change + "LOGOUT\r\n");
            Probe.due("looked at", p.call().manage(0, change.length() + 8), change.length());
            Probe.due("no answer", p.replies(0), "");
            Probe.due("start", p.call().start(), 3);
            Probe.due("as before: " + change, p.manage(0, list), before);
        }
    }

    private static void recipientsAreCut() {
        Probe.sentence("the k-th commit .. is not done (a recipient's): the ones before it are");
        for (int k = 1; k <= 4; k++) {
            Probe p = new Probe();
            p.activate(1, Bench.ALL + "fileinto \"x\";redirect \"a@b\";vacation \"v\";");
            p.greet();
            p.call().cut(k);
            String text = "MAIL FROM:<x@y>\r\n" + "RCPT TO:<ben@here>\r\nRCPT TO:<dan@here>\r\n".repeat(2) + "DATA\r\nTo: ben@here\r\n.\r\n";
            p.feed(text);
            Probe.due("all bytes", p.call().mail(text.length()), text.length());
            int[] mails = {0, 3, 4, 6};
            Probe.due("messages of " + (k - 1), p.call().count(0), mails[k - 1]);
            Probe.due("mailboxes and notes of " + (k - 1), p.call().count(31) * 10 + p.call().count(21), k == 1 ? 10 : 21);
            Probe.due("commits", p.call().start(), k + 1);
        }
    }

    private static void aheadOfItsAnswer() {
        Probe.sentence("done whole ahead of its answer; nothing is answered any more");
        Probe p = Probe.greeted();
        p.call().cut(3);
        String text = "MAIL FROM:<>\r\n" + "RCPT TO:<dan@here>\r\n".repeat(4) + "DATA\r\n.\r\nNOOP\r\n";
        p.feed(text);
        p.call().mail(text.length());
        Probe.due("answers of two", p.replies(4), "250 2.1.0 ok\r\n" + "250 2.1.5 ok\r\n".repeat(4) + "354 go\r\n" + "250 2.0.0 <dan@here>\r\n".repeat(2));
        Probe.due("two messages", p.call().messages(3, 0), 2);
        p.call().start();
        Probe.due("none behind start", p.replies(4), "");
    }

    private static void sessionsEnd() {
        Probe.sentence("Then all sessions end");
        String[] begun = {"LOG", "SETACTIVE \"", "CHECKSCRIPT {8+}\r\n", "?"};
        Probe p = Probe.greeted();
        for (int user = 0; user < 4; user++) {
            p.command(user, begun[user]);
        }
        p.post("MAIL FROM:<>\r\nRCPT TO:<dan@here>\r\nDATA\r\nx\r\n");
        p.replies(4);
        p.goDark();
        Probe.due("of delivery", p.call().count(7), 0);
        p.call().start();
        Probe.due("still", p.call().count(7), 0);
        for (int user = 0; user < 4; user++) {
            Probe.due("of user " + user, p.manage(user, "LOGOUT\r\n"), OK);
        }
        p.greet();
        Probe.due("nothing is left of the message", p.mail(".\r\nDATA\r\n"), "500 5.5.2 unknown\r\n503 5.5.1 order\r\n");
        p.command(1, "LOG");
        p.call().cut(1);
        p.feed("SETACTIVE \"\"\r\n");
        p.call().manage(0, 14);
        p.call().start();
        Probe.due("by another user's commit, too", p.manage(1, "OUT\r\n"), "NO \"syntax\"\r\n");
    }

    private static void refusedTillStart() {
        Probe.sentence("all calls but start(), cut(), reply() and questions are refused, till start(). A call that is refused changes nothing");
        Probe p = Probe.greeted();
        p.send("<>", "anna@here", "x\r\n");
        p.goDark();
        p.refused("feed", () -> p.call().feed(1, 2, 3, 4, 5), false);
        p.refused("connect", () -> p.call().connect(), false);
        p.refused("mail", () -> p.call().mail(0), -1);
        p.refused("manage", () -> p.call().manage(0, 0), -1);
        p.refused("tick", () -> p.call().tick(), -1);
        p.refused("cut, which is not", () -> p.call().cut(0), true);
        Probe.due("questions", p.call().messages(0, 0) * 100 + p.call().message(0, 0, 0, 0) * 10 + p.call().count(0), 131);
        Probe.due("and others", p.call().bytes(0, 0) == 0x780d0a0000000000L && p.call().name(0, 0, 0) == 0x494e424f58000000L, true);
        Probe.due("start", p.call().start(), 1);
        Probe.due("each again", p.call().feed(1, 2, 3, 4, 5) && p.call().connect() && p.call().mail(0) == 0 && p.call().manage(0, 0) == 0 && p.call().tick() == 1, true);
    }

    private static void whatIsThere() {
        Probe.sentence("what was committed is there (answers that wait stay, too)");
        Probe p = new Probe();
        p.activate(0, Bench.ALL + "fileinto :flags \"\\\\Seen\" \"a\";redirect \"c@d\";vacation \"v\";");
        p.greet();
        p.send("<x@y>", "anna@here", "To: anna@here\r\n");
        p.call().tick();
        p.command(3, "LOGOUT\r\n");
        p.post("NOOP\r\n");
        String before = p.state().replace(" 7:1 ", " 7:0 ");
        String text = p.bytes(0) + p.bytes(1) + p.bytes(2) + p.name(4, 0) + p.name(4, 1);
        p.goDark();
        Probe.due("without power", p.state(), before.replace(" 6:1 ", " 6:0 "));
        Probe.due("start", p.call().start(), 4);
        Probe.due("with power", p.state(), before);
        Probe.due("bytes and names", p.bytes(0) + p.bytes(1) + p.bytes(2) + p.name(4, 0) + p.name(4, 1), text);
        Probe.due("mailboxes and flags", p.boxes(0), "INBOX:0 a:1/1");
        Probe.due("answers", p.replies(3) + p.replies(4), OK + "250 2.0.0 ok\r\n");
        Probe.due("scripts", p.manage(0, "LISTSCRIPTS\r\n"), "\"s\" ACTIVE\r\nOK\r\n");
    }

    private static void daysGoOn() {
        Probe.sentence("Days go on in the store: tick() is a commit of its own");
        Probe p = new Probe();
        p.call().tick();
        p.call().cut(2);
        Probe.due("the first one", p.manage(0, "SETACTIVE \"\"\r\n"), OK);
        Probe.due("the second one", p.call().tick(), -1);
        Probe.due("commits", p.call().start(), 2);
        Probe.due("the day goes on", p.call().tick(), 2);
    }

    private static void ownMemory() {
        Probe.sentence("All memory is the class's own");
        Probe one = Probe.greeted();
        Probe other = Probe.greeted();
        one.activate(0, "discard;");
        other.activate(0, "keep;");
        one.post("MAIL FROM:<a@b>\r\nRCPT TO:<anna@here>\r\nDATA\r\nx");
        Probe.due("another object's sender", other.mail("RCPT TO:<anna@here>\r\n"), "503 5.5.1 order\r\n");
        other.send("<>", "anna@here", "y\r\n");
        one.post("\r\n.\r\n");
        Probe.due("each runs its own script", one.call().count(0) * 10 + other.call().count(0), 1);
        one.goDark();
        Probe.due("another object's power", other.call().count(6), 1);
    }
}
