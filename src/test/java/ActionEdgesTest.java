/** Running a script: the edges of its actions, of the implicit keep and of failing. */
public final class ActionEdgesTest {
    private static final String TO_ANNA = "To: anna@here\r\n";

    public static void main(String[] args) {
        mailboxNames();
        flagsTold();
        flagsSet();
        redirected();
        implicitKeep();
        countsOnce();
        rejected();
        stopped();
        fourAddresses();
        rejectsAnd();
        vacationTwice();
        sixMailboxes();
        failsAlone();
        orderOfCommit();
        ownScripts();
        Probe.end("ActionEdgesTest");
    }

    private static Probe ready(String script) {
        Probe p = new Probe();
        p.activate(0, Bench.ALL + script);
        p.greet();
        return p;
    }

    /** A message to anna, whose script is this one from now on. */
    private static void send(Probe p, String script, String message) {
        p.activate(0, Bench.ALL + script);
        Probe.due("delivered by " + script, p.send("<x@y>", "anna@here", message), "250 2.0.0 <anna@here>\r\n");
    }

    private static void mailboxNames() {
        Probe.sentence("fileinto: to the mailbox of that name (INBOX without case is INBOX; others as written; made if it is not there)");
        Probe p = Probe.greeted();
        send(p, "fileinto \"inbox\";", "");
        send(p, "fileinto \"InBoX\";", "");
        send(p, "keep;", "");
        Probe.due("one INBOX", p.boxes(0), "INBOX:3");
        send(p, "fileinto \"A\";", "");
        send(p, "fileinto \"a\";fileinto \"A\";", "");
        Probe.due("as written", p.boxes(0), "INBOX:3 A:2 a:1");
        send(p, "fileinto \"INBOX \";fileinto \" INBOX\";fileinto \"INBO\";", "");
        Probe.due("all of it", p.boxes(0), "INBOX:3 A:2 a:1 INBOX :1  INBOX:1 INBO:1");
        Probe.due("not another user's", p.call().count(31), 1);
    }

    private static void flagsTold() {
        Probe.sentence("Both with the flags told, or else those set");
        Probe p = Probe.greeted();
        send(p, "setflag \"\\\\Seen\";keep :flags \"\\\\Draft\";fileinto :flags \"\" \"a\";fileinto \"b\";fileinto :flags [\"\\\\Seen\",\"\\\\Flagged\"] \"c\";", "");
        Probe.due("flags", p.boxes(0), "INBOX:1/16 a:1 b:1/1 c:1/5");
        send(p, "keep :flags \"foo\";", "");
        Probe.due("told, though none is known", p.call().message(0, 0, 1, 1), 0);
        send(p, "keep :flags [\"\\\\seen\",\"\\\\SEEN\",\"\\\\Seen\"];", "");
        Probe.due("told three times", p.call().message(0, 0, 2, 1), 1);
    }

    private static void flagsSet() {
        Probe.sentence("setflag, addflag, removeflag: the flags set are those told, these too, not these; none at the beginning");
        Probe p = Probe.greeted();
        String[] scripts = {"", "addflag \"\\\\Seen\";", "setflag \"\\\\Seen\";setflag \"\\\\Draft\";", "setflag \"\\\\Seen\";addflag \"\\\\Draft\";", "addflag \"\\\\Seen\";addflag \"\\\\Seen\";",
            "removeflag \"\\\\Seen\";", "setflag [\"\\\\Seen\",\"\\\\Draft\"];removeflag [\"\\\\Draft\",\"\\\\Flagged\"];", "setflag \"\\\\Seen\";setflag \"\";", "setflag \"\\\\Seen\";addflag \"x\";"};
        int[] due = {0, 1, 16, 17, 1, 0, 1, 0, 1};
        for (int i = 0; i < scripts.length; i++) {
            send(p, scripts[i], "");
            Probe.due("flags set by " + scripts[i], p.call().message(0, 0, i, 1), due[i]);
        }
    }

    private static void redirected() {
        Probe.sentence("redirect: to the outbox for that address, the message as it came");
        String message = "a: b\r\n c\r\n\r\n.\r\n..\u0000\u00ff\r\n";
        Probe p = ready("redirect \"A.b@C\";");
        p.send("<x@y>", "anna@here", message);
        Probe.due("its bytes", p.bytes(0), message);
        Probe.due("its address", p.name(4, 0), "A.b@C");
        Probe.due("not kept", p.call().count(0), 1);
        p.send("<x@y>", "anna@here", "");
        Probe.due("an empty one", p.call().count(0) * 100 + p.call().count(2), 200 + message.length());
    }

    private static void implicitKeep() {
        Probe.sentence("Each but a :copy takes away the IMPLICIT KEEP: with none of them the message is kept, with the flags set at the end");
        String[] kept = {"", "stop;", "if true{}", "fileinto :copy \"a\";", "redirect :copy \"a@b\";", "fileinto :copy \"a\";redirect :copy \"a@b\";", "vacation \"x\";", "addflag \"x\";",
            "if false{discard;}", "stop;discard;"};
        String[] gone = {"discard;", "fileinto \"a\";", "redirect \"a@b\";", "discard;fileinto :copy \"a\";", "fileinto :copy \"a\";discard;", "redirect \"a@b\";redirect :copy \"c@d\";", "discard;discard;",
            "discard;stop;"};
        Probe p = Probe.greeted();
        for (String script : kept) {
            int before = p.call().messages(0, 0);
            send(p, script, "");
            Probe.due("kept by " + script, p.call().messages(0, 0), before + 1);
        }
        Probe q = Probe.greeted();
        for (String script : gone) {
            send(q, script, "");
            Probe.due("not kept by " + script, q.call().messages(0, 0), 0);
        }
        send(q, "discard;keep;", "");
        Probe.due("kept by an action", q.call().messages(0, 0), 1);
        send(q, "addflag \"\\\\Seen\";fileinto :copy \"a\";addflag \"\\\\Draft\";removeflag \"\\\\Seen\";", "");
        Probe.due("with the flags set at the end", q.call().message(0, 0, 1, 1), 16);
    }

    private static void countsOnce() {
        Probe.sentence("The same mailbox, or address, counts once (the first; case of addresses aside), but each that is no :copy takes the implicit keep away");
        Probe p = ready("fileinto \"a\";fileinto \"b\";fileinto :flags \"\\\\Seen\" \"b\";fileinto :flags \"\\\\Seen\" \"a\";fileinto \"b\";");
        p.send("<>", "anna@here", "");
        Probe.due("new mailboxes", p.boxes(0), "INBOX:0 a:1 b:1");
        p.send("<>", "anna@here", "");
        Probe.due("those that are there", p.boxes(0), "INBOX:0 a:2 b:2");
        Probe q = ready("fileinto :copy \"a\";fileinto \"a\";");
        q.send("<>", "anna@here", "");
        Probe.due("a second one that is no :copy", q.boxes(0), "INBOX:0 a:1");
        Probe r = ready("redirect :copy \"a@b\";redirect \"A@B\";redirect :copy \"a@B\";");
        r.send("<>", "anna@here", "");
        Probe.due("of an address, too", r.call().count(0) * 10 + r.call().count(1), 11);
        Probe.due("the first", r.name(4, 0), "a@b");
        Probe s = ready("keep :flags \"\\\\Seen\";fileinto \"inbox\";keep :flags \"\\\\Draft\";");
        s.send("<>", "anna@here", "");
        Probe.due("INBOX", s.boxes(0), "INBOX:1/1");
        s.send("<>", "anna@here", "");
        Probe.due("once for each message", s.boxes(0), "INBOX:2/1");
    }

    private static void rejected() {
        Probe.sentence("reject: an answer to the sender (none, if there is no sender)");
        Probe p = ready("reject \"\";");
        p.send("<x@y>", "anna@here", "Subject: s\r\n");
        Probe.due("an empty reason", p.bytes(0), "To: x@y\r\nSubject: Refused\r\n\r\n\r\n");
        Probe.due("its address", p.name(4, 0), "x@y");
        p.send("<>", "anna@here", "Subject: s\r\n");
        Probe.due("no sender", p.call().count(0), 1);
        Probe.due("a commit for each", p.call().count(4), 4);
        p.send("<mailer-daemon@y>", "anna@here", "List-Id: s\r\n");
        p.send("<x@y>", "anna@here", "");
        Probe.due("to each sender, each time", p.call().count(1), 3);
    }

    private static void stopped() {
        Probe.sentence("stop ends it");
        Probe p = Probe.greeted();
        send(p, "fileinto \"a\";stop;fileinto \"b\";reject \"x\";", "");
        Probe.due("what is before it is done", p.boxes(0), "INBOX:0 a:1");
        send(p, "if true{if true{stop;}keep;}else{keep;}keep;", "");
        Probe.due("within blocks", p.boxes(0), "INBOX:1 a:1");
        send(p, "if false{stop;}elsif true{discard;}", "");
        Probe.due("not where it does not come to", p.boxes(0), "INBOX:1 a:1");
    }

    private static void fourAddresses() {
        Probe.sentence("A script FAILS if it redirects to more than four addresses");
        String four = "redirect \"a@b\";redirect :copy \"b@b\";redirect \"c@b\";redirect \"d@b\";";
        Probe p = Probe.greeted();
        send(p, four, "");
        Probe.due("four", p.call().count(1) * 10 + p.call().messages(0, 0), 40);
        send(p, four + "redirect \"D@B\";redirect :copy \"a@B\";", "");
        Probe.due("four, some of them twice", p.call().count(1) * 10 + p.call().messages(0, 0), 80);
        send(p, four + "redirect \"e@b\";", "");
        Probe.due("five", p.call().count(1) * 10 + p.call().messages(0, 0), 81);
        send(p, four + "redirect :copy \"e@b\";", "");
        Probe.due("five, one of them a :copy", p.call().count(1) * 10 + p.call().messages(0, 0), 82);
        send(p, four + "stop;redirect \"e@b\";", "");
        Probe.due("four, and one behind stop", p.call().count(1) * 10 + p.call().messages(0, 0), 122);
    }

    private static void rejectsAnd() {
        Probe.sentence("rejects and keeps (by an action), files, redirects (with :copy, too), comes to vacation (whether there is an answer or not), or rejects again");
        String[] others = {"keep;", "keep :flags \"\";", "fileinto \"a\";", "fileinto :copy \"a\";", "fileinto \"INBOX\";", "redirect \"a@b\";", "redirect :copy \"a@b\";", "vacation \"v\";", "reject \"x\";"};
        for (String other : others) {
            Probe p = Probe.greeted();
            String[] scripts = {"reject \"x\";" + other, other + "reject \"x\";"};
            for (int i = 0; i < scripts.length; i++) {
                send(p, scripts[i], i == 0 ? "" : TO_ANNA);
                Probe.due("kept alone by " + scripts[i], p.boxes(0) + " " + p.call().count(1) + p.call().count(20), "INBOX:" + (i + 1) + " 00");
            }
        }
        String[] fine = {"reject \"x\";discard;", "discard;reject \"x\";", "reject \"x\";stop;keep;", "reject \"x\";addflag \"\\\\Seen\";", "if true{reject \"x\";}else{keep;}"};
        Probe p = Probe.greeted();
        for (int i = 0; i < fine.length; i++) {
            send(p, fine[i], "");
            Probe.due("refused by " + fine[i], p.boxes(0) + " " + p.call().count(1), "INBOX:0 " + (i + 1));
        }
        Probe q = ready("reject \"x\";keep;");
        q.send("<>", "anna@here", "");
        Probe.due("without a sender, too", q.boxes(0), "INBOX:1");
    }

    private static void vacationTwice() {
        Probe.sentence("comes to vacation twice");
        Probe p = Probe.greeted();
        send(p, "discard;vacation \"v\";vacation \"v\";", TO_ANNA);
        Probe.due("with answers", p.boxes(0) + " " + p.call().count(1) + p.call().count(20), "INBOX:1 00");
        send(p, "discard;vacation \"v\";vacation :handle \"w\" \"v\";", "");
        Probe.due("without answers", p.boxes(0) + " " + p.call().count(1) + p.call().count(20), "INBOX:2 00");
        send(p, "vacation \"v\";if false{vacation \"v\";}discard;stop;vacation \"v\";", TO_ANNA);
        Probe.due("once", p.boxes(0) + " " + p.call().count(1) + p.call().count(20), "INBOX:2 11");
    }

    private static void sixMailboxes() {
        Probe.sentence("or would make more than six mailboxes of a user, INBOX among them");
        String five = "fileinto \"1\";fileinto \"2\";fileinto \"3\";fileinto \"4\";fileinto \"5\";";
        Probe p = Probe.greeted();
        send(p, five + "fileinto \"6\";", "");
        Probe.due("seven at once", p.boxes(0), "INBOX:1");
        send(p, five + "fileinto \"inbox\";fileinto \"5\";", "");
        Probe.due("six", p.boxes(0), "INBOX:2 1:1 2:1 3:1 4:1 5:1");
        send(p, "fileinto \"1\";fileinto :copy \"6\";", "");
        Probe.due("a seventh one", p.boxes(0), "INBOX:3 1:1 2:1 3:1 4:1 5:1");
        send(p, five, "");
        Probe.due("those that are there", p.boxes(0), "INBOX:3 1:2 2:2 3:2 4:2 5:2");
        Probe q = Probe.greeted();
        send(q, five.substring(0, 52), "");
        send(q, "fileinto \"5\";fileinto \"6\";", "");
        Probe.due("four, then two more", q.boxes(0), "INBOX:1 1:1 2:1 3:1 4:1");
        send(q, "fileinto \"5\";", "");
        Probe.due("one more", q.boxes(0), "INBOX:1 1:1 2:1 3:1 4:1 5:1");
        q.activate(1, Bench.ALL + five);
        q.send("<>", "ben@here", "");
        Probe.due("another user's are his own", q.call().count(31), 6);
    }

    private static void failsAlone() {
        Probe.sentence("then nothing else of it is done, the message is kept alone, without flags");
        Probe p = Probe.greeted();
        send(p, "addflag \"\\\\Seen\";fileinto \"a\";redirect \"a@b\";vacation \"v\";discard;keep :flags \"\\\\Draft\";vacation \"v\";", TO_ANNA);
        Probe.due("kept alone", p.boxes(0) + " " + p.call().count(0) + p.call().count(20), "INBOX:1 10");
        Probe.due("a commit like others", p.call().count(4), 3);
        send(p, "fileinto \"a\";", "");
        Probe.due("the next one does not fail", p.boxes(0), "INBOX:1 a:1");
        p.activate(1, Bench.ALL + "keep;reject \"x\";");
        p.activate(2, Bench.ALL + "discard;");
        p.mail("MAIL FROM:<x@y>\r\nRCPT TO:<ben@here>\r\nRCPT TO:<cleo@here>\r\nRCPT TO:<dan@here>\r\nRCPT TO:<anna@here>\r\nDATA\r\n.\r\n");
        Probe.due("nor the next recipients", p.boxes(1) + " " + p.boxes(2) + " " + p.boxes(3) + " " + p.boxes(0), "INBOX:1 INBOX:0 INBOX:1 INBOX:1 a:2");
    }

    private static void orderOfCommit() {
        Probe.sentence("of a recipient the messages to mailboxes in the order of the actions, then redirected ones likewise, then the answer of reject or vacation");
        Probe p = ready("vacation \"v\";redirect :copy \"c@d\";fileinto :copy \"b\";redirect :copy \"a@b\";fileinto :copy \"a\";");
        p.send("<x@y>", "anna@here", TO_ANNA);
        int[] numbers = {p.call().message(0, 1, 0, 2), p.call().message(0, 2, 0, 2), p.call().message(0, 0, 0, 2)};
        Probe.due("b, a, the implicit keep", numbers[0] * 100 + numbers[1] * 10 + numbers[2], 12);
        Probe.due("then the outbox", p.name(4, 0) + " " + p.name(4, 1) + " " + p.name(4, 2), "c@d a@b x@y");
        Probe.due("redirected", p.bytes(3) + p.bytes(4), TO_ANNA + TO_ANNA);
        Probe.due("the answer", p.bytes(5), "To: x@y\r\nSubject: Auto: \r\n\r\nv\r\n");
        Probe.due("one commit", p.call().count(4), 3);
        p.send("<x@y>", "dan@here", "");
        Probe.due("the next number", p.call().message(3, 0, 0, 2), 6);
    }

    private static void ownScripts() {
        Probe.sentence("his active script runs over it (none: it is kept)");
        Probe p = Probe.greeted();
        p.activate(0, Bench.ALL + "if header \"a\" \"x\"{fileinto \"a\";}");
        p.activate(1, Bench.ALL + "if header \"a\" \"X\"{fileinto \"b\";}");
        p.manage(2, "PUTSCRIPT \"s\" \"discard;\"\r\n");
        Probe.due("a script with a fault", p.manage(3, "CHECKSCRIPT \"discard;\"\r\nPUTSCRIPT \"s\" \"foo\"\r\n"), "OK\r\nNO \"line 1\"\r\n");
        p.mail("MAIL FROM:<>\r\nRCPT TO:<anna@here>\r\nRCPT TO:<ben@here>\r\nRCPT TO:<cleo@here>\r\nRCPT TO:<dan@here>\r\nDATA\r\na: x\r\n.\r\n");
        Probe.due("each his own", p.boxes(0) + " " + p.boxes(1), "INBOX:0 a:1 INBOX:0 b:1");
        Probe.due("not active, or none", p.boxes(2) + " " + p.boxes(3), "INBOX:1 INBOX:1");
        p.mail("MAIL FROM:<>\r\nRCPT TO:<anna@here>\r\nDATA\r\na: x\r\n.\r\n");
        Probe.due("again", p.boxes(0), "INBOX:0 a:2");
    }
}
