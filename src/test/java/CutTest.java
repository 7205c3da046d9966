/** Promise 8: cut. */
public final class CutTest {
    public static void main(String[] args) {
        edges();
        counted();
        saidAgain();
        withoutPower();
        notCounted();
        wholeCommits();
        Probe.end("CutTest");
    }

    private static void edges() {
        Probe p = new Probe();
        Probe.due("0", p.call().cut(0), true);
        Probe.due("1000", p.call().cut(1000), true);
        Probe.due("1001", p.call().cut(1001), false);
        Probe.due("-1", p.call().cut(-1), false);
        Probe.due("least", p.call().cut(Integer.MIN_VALUE), false);
        p.call().cut(2);
        Probe.due("a refused one changes nothing", p.call().cut(1001), false);
        Probe.due("first", p.call().tick(), 1);
        Probe.due("second", p.call().tick(), -1);
    }

    private static void counted() {
        Probe p = new Probe();
        p.call().cut(5);
        Probe.due("three commits", p.manage(0, "PUTSCRIPT \"a\" \"\"\r\nSETACTIVE \"a\"\r\nRENAMESCRIPT \"a\" \"b\"\r\n"), "OK\r\nOK\r\nOK\r\n");
        p.greet();
        Probe.due("the fourth", p.send("<>", "anna@here", "x\r\n"), "250 2.0.0 <anna@here>\r\n");
        p.feed("MAIL FROM:<>\r\nRCPT TO:<anna@here>\r\nDATA\r\n.\r\n");
        Probe.due("the fifth", p.call().mail(44), 44);
        Probe.due("is not done", p.call().messages(0, 0), 1);
        Probe.due("no power", p.call().count(6), 0);
        Probe.due("start", p.call().start(), 4);
        Probe.due("once only", p.call().tick(), 1);
    }

    private static void saidAgain() {
        Probe p = new Probe();
        p.call().cut(1);
        p.call().cut(0);
        Probe.due("none is cut", p.call().tick(), 1);
        p.call().cut(1);
        p.call().cut(2);
        Probe.due("in place of what was said", p.call().tick(), 2);
        Probe.due("from then on", p.call().tick(), -1);
    }

    private static void withoutPower() {
        Probe p = new Probe();
        p.call().cut(1);
        p.call().tick();
        Probe.due("said without power", p.call().cut(2), true);
        Probe.due("wrong without power", p.call().cut(-1), false);
        Probe.due("refused calls are no commits", p.call().tick() + p.call().tick(), -2);
        p.call().start();
        Probe.due("first from start on", p.call().tick(), 1);
        Probe.due("second from start on", p.call().tick(), -1);
    }

    private static void notCounted() {
        Probe p = new Probe();
        p.manage(0, "PUTSCRIPT \"a\" \"\"\r\nSETACTIVE \"a\"\r\n");
        p.call().cut(1);
        p.manage(0, "PUTSCRIPT \"b\" \"x\"\r\nCHECKSCRIPT \"\"\r\nSETACTIVE \"b\"\r\nDELETESCRIPT \"a\"\r\nDELETESCRIPT \"b\"\r\nRENAMESCRIPT \"a\" \"a\"\r\n"
            + "LISTSCRIPTS\r\nGETSCRIPT \"a\"\r\nHAVESPACE \"a\" 1\r\nLOGOUT\r\n");
        p.greet();
        p.mail("MAIL FROM:<>\r\nRCPT TO:<dan@here>\r\nRSET\r\n");
        Probe.due("what changes nothing is no commit", p.call().count(6), 1);
        Probe.due("commits", p.call().count(4), 2);
        Probe.due("discard is one", p.manage(0, "SETACTIVE \"\"\r\n"), "");
        Probe.due("no power", p.call().count(6), 0);
    }

    private static void wholeCommits() {
        Probe p = new Probe();
        p.activate(0, "require [\"fileinto\",\"copy\",\"vacation\"];fileinto :copy \"Far\";redirect :copy \"a@b\";vacation \"gone\";");
        p.greet();
        p.call().cut(1);
        String all = "MAIL FROM:<x@y>\r\nRCPT TO:<anna@here>\r\nDATA\r\nTo: anna@here\r\n.\r\n";
        p.feed(all);
        p.call().mail(all.length());
        Probe.due("no message", p.call().count(0), 0);
        Probe.due("no note", p.call().count(20), 0);
        Probe.due("no mailbox", p.call().count(30), 1);
        p.call().start();
        p.replies(4);
        p.greet();
        p.send("<x@y>", "anna@here", "To: anna@here\r\n");
        Probe.due("all of it", p.boxes(0), "INBOX:1 Far:1");
        Probe.due("outbox", p.call().count(1), 2);
        Probe.due("note", p.call().count(20), 1);
    }
}
