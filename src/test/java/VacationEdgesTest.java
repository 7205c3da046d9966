/** Answers in one's absence: the edges of whom they go to, how often, and what they say. */
public final class VacationEdgesTest {
    private static final String TO_ANNA = "To: anna@here\r\n";

    public static void main(String[] args) {
        senders();
        fields();
        addresses();
        onlyAddresses();
        days();
        latestNote();
        handles();
        fortyNotes();
        notesOfUsers();
        notedWithTheCommit();
        subjects();
        reasons();
        takesNothingAway();
        Probe.end("VacationEdgesTest");
    }

    private static Probe ready(String vacation) {
        Probe p = new Probe();
        p.activate(0, Bench.ALL + vacation);
        p.greet();
        return p;
    }

    /** Sends a message to anna: whether it is answered, and noted with that. */
    private static void answered(String what, Probe p, String from, String message, boolean due) {
        int before = p.call().count(1);
        int notes = p.call().count(20);
        p.post("MAIL FROM:<" + from + ">\r\nRCPT TO:<anna@here>\r\nDATA\r\n" + message + ".\r\n");
        Probe.due(what, p.call().count(1) - before, due ? 1 : 0);
        Probe.due("a note of it: " + what, p.call().count(20) - notes, due && notes < 40 ? 1 : 0);
    }

    private static void senders() {
        Probe.sentence("there is a sender, whose local part is not mailer-daemon, listserv, majordomo, nor begins with owner- or ends with -request (without case)");
        String[] never = {"", "mailer-daemon@x", "MAILER-daemon@x", "listserv@x", "ListServ@x", "majordomo@x", "MajorDomo@x", "owner-@x", "owner-a@x", "OWNER-b@x", "-request@x", "a-request@x",
            "a-REQUEST@x", "owner-request@x"};
        String[] always = {"mailer-daemo@x", "mailer-daemonn@x", "amailer-daemon@x", "listser@x", "listserv1@x", "majordomo.x@y", "owner@x", "ownera@x", "aowner-b@x", "request@x", "a-requests@x",
            "a-request.b@x", "arequest@x", "a@listserv", "a@owner-x", "a@x-request", "o@x"};
        Probe p = ready("vacation \"r\";");
        for (String from : never) {
            answered("to <" + from + ">", p, from, TO_ANNA, false);
        }
        for (String from : always) {
            answered("to <" + from + ">", p, from, TO_ANNA, true);
        }
    }

    private static void fields() {
        Probe.sentence("the message has no field List-Id, List-Post, Precedence, and none Auto-Submitted but no (without case)");
        String[] never = {"List-Id:", "LIST-ID: no", "list-post:", "List-Post: no", "precedence:", "Precedence: no", "Auto-Submitted:", "Auto-Submitted: yes", "Auto-Submitted: n", "Auto-Submitted: noo",
            "Auto-Submitted: no no", "Auto-Submitted: \"no\"", "Auto-Submitted: no\r\nAuto-Submitted: yes", "Auto-Submitted: yes\r\nAuto-Submitted: no", "auto-submitted: auto-replied"};
        String[] always = {"X: y", "Auto-Submitted: no", "AUTO-submitted:\tNO ", "Auto-Submitted:nO", "Auto-Submitted: no\r\nAuto-Submitted: No", "List-I: x", "List-Ids: x", "List: x", "Auto-Submitte: x",
            "Precedences: bulk", "X-List-Id: x", "x: y\r\n List-Id: z", "\r\nList-Id: x"};
        Probe p = ready("vacation \"r\";");
        for (String field : never) {
            answered("of " + field, p, "a@b", TO_ANNA + field + "\r\n", false);
        }
        for (int i = 0; i < always.length; i++) {
            answered("of " + always[i], p, "a" + i + "@b", TO_ANNA + always[i] + "\r\n", true);
        }
    }

    private static void addresses() {
        Probe.sentence("the recipient's address or one of :addresses (that is an address) is among the addresses in To, Cc, Bcc (without case)");
        String[] never = {"", "To:\r\n", "To: anna\r\n", "To: nna@here\r\n", "To: anna@her\r\n", "To: ben@here\r\n", "From: anna@here\r\n", "Reply-To: anna@here\r\n", "Tos: anna@here\r\n", "\r\nTo: anna@here\r\n",
            "To: (anna@here) x@y\r\n", "To: \"anna@here\"\r\n", "To: anna@here <x@y>\r\n", "To: <anna@here\r\n", "Cc: no address\r\n", "Cc: \"no address\"\r\n"};
        String[] always = {"To: anna@here\r\n", "CC: ANNA@HERE\r\n", "bCC: Anna <anna@Here>\r\n", "To: x@y\r\nTo: anna@here\r\n", "To: x@y\r\nCc: z@w\r\nBcc: anna@here\r\n", "To: x@y, anna@here\r\n",
            "To: one@home\r\n", "Cc: x, ONE@HOME\r\n", "Bcc: ten@home\r\n"};
        String told = ":addresses [\"one@home\",\"no address\",\"\",\"x\",\"<y@z>\",\"6\",\"7\",\"8\",\"9\",\"Ten@Home\"] ";
        Probe p = ready("vacation " + told + "\"r\";");
        for (String field : never) {
            answered("for " + field, p, "a@b", field, false);
        }
        for (int i = 0; i < always.length; i++) {
            answered("for " + always[i], p, "a" + i + "@b", always[i], true);
        }
    }

    private static void onlyAddresses() {
        Probe.sentence("one of :addresses: no other string of the script");
        Probe p = ready("vacation :subject \"s@x\" :addresses \"a@x\" :handle \"h@x\" \"r@x\";");
        String[] others = {"s@x", "h@x", "r@x"};
        for (String other : others) {
            answered("for " + other, p, "a@b", "To: " + other + "\r\n", false);
        }
        Probe q = ready("vacation :addresses \"a@x\" \"r@x\";");
        answered("for the reason", q, "a@b", "To: r@x\r\n", false);
        answered("for the address", q, "a@b", "To: a@x\r\n", true);
        Probe r = ready("vacation \"r@x\";");
        answered("without any, for the reason", r, "a@b", "To: r@x\r\n", false);
        Probe s = new Probe();
        s.activate(1, Bench.ALL + "vacation \"r\";");
        s.greet();
        s.mail("MAIL FROM:<x@y>\r\nRCPT TO:<anna@here>\r\nRCPT TO:<ben@here>\r\nDATA\r\n" + TO_ANNA + ".\r\n");
        Probe.due("another recipient's address", s.call().count(1), 0);
        s.mail("MAIL FROM:<x@y>\r\nRCPT TO:<anna@here>\r\nRCPT TO:<BEN@here>\r\nDATA\r\nTo: ben@HERE\r\n.\r\n");
        Probe.due("his own, in other letters", s.call().count(1), 1);
    }

    private static void days() {
        Probe.sentence("within so many days (:days, 1 .. 30, beyond taken as these; 7 if none is told): today is less than the day of that one and these days");
        String[] tags = {"", ":days 0", ":days 1", ":days 2", ":days 7", ":days 29", ":days 30", ":days 31", ":days 1K", ":days 2147483647"};
        int[] due = {7, 1, 1, 2, 7, 29, 30, 30, 30, 30};
        for (int i = 0; i < tags.length; i++) {
            Probe p = ready("vacation " + tags[i] + " \"r\";");
            answered("on day 0 " + tags[i], p, "a@b", TO_ANNA, true);
            for (int day = 1; day < due[i]; day++) {
                p.call().tick();
            }
            answered("on the last day of them " + tags[i], p, "a@b", TO_ANNA, false);
            p.call().tick();
            answered("on the day behind them " + tags[i], p, "a@b", TO_ANNA, true);
            for (int day = 1; day < due[i]; day++) {
                p.call().tick();
            }
            answered("on the last day of the next ones " + tags[i], p, "A@B", TO_ANNA, false);
            p.call().tick();
            answered("behind the next ones " + tags[i], p, "A@B", TO_ANNA, true);
        }
    }

    private static void latestNote() {
        Probe.sentence("by the notes that are there none was made for him, this sender (without case) and this handle (.. of several notes the latest)");
        Probe p = ready("vacation :days 1 \"r\";");
        answered("day 0", p, "a@b", TO_ANNA, true);
        p.call().tick();
        answered("day 1", p, "a@b", TO_ANNA, true);
        p.call().tick();
        p.activate(0, Bench.ALL + "vacation :days 2 \"r\";");
        answered("two days of the first one, not of the latest", p, "a@b", TO_ANNA, false);
        p.call().tick();
        answered("two days of the latest", p, "a@b", TO_ANNA, true);
        p.activate(0, Bench.ALL + "vacation :days 30 \"r\";");
        answered("more days by another script", p, "a@b", TO_ANNA, false);
        answered("another sender", p, "a@c", TO_ANNA, true);
    }

    private static void handles() {
        Probe.sentence("this handle (none told: the reason's text; by its bytes)");
        Probe p = ready("vacation \"r\";");
        answered("a reason", p, "a@b", TO_ANNA, true);
        String[] same = {"vacation :handle \"r\" \"x\";", "vacation :subject \"s\" \"r\";", "vacation :days 30 \"\\r\";"};
        for (String script : same) {
            p.activate(0, Bench.ALL + script);
            answered("the same: " + script, p, "a@b", TO_ANNA, false);
        }
        String[] other = {"vacation \"R\";", "vacation \"r \";", "vacation \"\";", "vacation :handle \"x\" \"r\";", "vacation :handle \"X\" \"r\";", "vacation text:\nr\n.\n;"};
        for (String script : other) {
            p.activate(0, Bench.ALL + script);
            answered("another: " + script, p, "a@b", TO_ANNA, true);
            answered("then the same: " + script, p, "a@b", TO_ANNA, false);
        }
        p.activate(0, Bench.ALL + "vacation :handle \"\" \"y\";");
        answered("an empty one is that of an empty reason", p, "a@b", TO_ANNA, false);
    }

    private static void fortyNotes() {
        Probe.sentence("one note more each time (40 notes of a user; the oldest, the first made, gives way)");
        Probe p = ready("vacation :days 30 \"r\";");
        for (int i = 0; i < 39; i++) {
            p.post("MAIL FROM:<s" + i + "@x>\r\nRCPT TO:<anna@here>\r\nDATA\r\n" + TO_ANNA + ".\r\n");
        }
        Probe.due("39 notes", p.call().count(20), 39);
        answered("the fortieth", p, "s39@x", TO_ANNA, true);
        answered("the first is there", p, "s0@x", TO_ANNA, false);
        answered("the forty-first", p, "s40@x", TO_ANNA, true);
        Probe.due("40 notes", p.call().count(20), 40);
        answered("the second is there", p, "s1@x", TO_ANNA, false);
        answered("the last ones are there", p, "s39@x", TO_ANNA, false);
        answered("and there", p, "s40@x", TO_ANNA, false);
        answered("the first is gone, and comes again", p, "s0@x", TO_ANNA, true);
        answered("the second has given way for it", p, "s1@x", TO_ANNA, true);
        answered("the fourth is there", p, "s3@x", TO_ANNA, false);
    }

    private static void notesOfUsers() {
        Probe.sentence("none was made for him; 40 notes of a user");
        Probe p = ready("vacation \"r\";");
        p.activate(1, Bench.ALL + "vacation \"r\";");
        String both = "MAIL FROM:<x@y>\r\nRCPT TO:<anna@here>\r\nRCPT TO:<ben@here>\r\nRCPT TO:<anna@here>\r\nDATA\r\nTo: anna@here, ben@here\r\n.\r\n";
        p.mail(both);
        Probe.due("one of each", p.call().count(20) * 10 + p.call().count(21), 11);
        Probe.due("two answers", p.call().count(1), 2);
        p.mail(both);
        Probe.due("no more of them", p.call().count(1), 2);
    }

    private static void notedWithTheCommit() {
        Probe.sentence("Then today is noted with the commit");
        Probe p = ready("vacation \"r\";");
        p.call().cut(1);
        String text = "MAIL FROM:<x@y>\r\nRCPT TO:<anna@here>\r\nDATA\r\n" + TO_ANNA + ".\r\n";
        p.feed(text);
        p.call().mail(text.length());
        Probe.due("no commit, no note, no answer", p.call().count(20) * 10 + p.call().count(1), 0);
        p.call().start();
        p.replies(4);
        p.greet();
        answered("then", p, "x@y", TO_ANNA, true);
        p.goDark();
        p.call().start();
        p.replies(4);
        p.greet();
        answered("a note outlives the power", p, "x@y", TO_ANNA, false);
    }

    private static String answer(String vacation, String message) {
        Probe p = ready(vacation);
        p.post("MAIL FROM:<X@y>\r\nRCPT TO:<anna@here>\r\nDATA\r\n" + message + ".\r\n");
        return p.bytes(1);
    }

    private static void subjects() {
        Probe.sentence("Subject: and the subject told (as it is), or Auto: and the first Subject's value (or nothing)");
        String to = "To: X@y\r\nSubject: ";
        Probe.due("told", answer("vacation :subject \" S \" \"r\";", TO_ANNA + "Subject: m\r\n"), to + " S \r\n\r\nr\r\n");
        Probe.due("told, empty", answer("vacation :subject \"\" \"r\";", TO_ANNA + "Subject: m\r\n"), to + "\r\n\r\nr\r\n");
        Probe.due("told, with a line's end", answer("vacation :subject \"a\r\nb\" \"r\";", TO_ANNA), to + "a\r\nb\r\n\r\nr\r\n");
        Probe.due("told, 200 bytes", answer("vacation :subject \"" + "s".repeat(200) + "\" \"r\";", TO_ANNA), to + "s".repeat(200) + "\r\n\r\nr\r\n");
        Probe.due("the first one's", answer("vacation \"r\";", "SUBJECT: one\r\n" + TO_ANNA + "Subject: two\r\n"), to + "Auto: one\r\n\r\nr\r\n");
        Probe.due("its whole value", answer("vacation \"r\";", TO_ANNA + "Subject: one \r\n  two\t\r\n"), to + "Auto: one   two\r\n\r\nr\r\n");
        Probe.due("an empty one", answer("vacation \"r\";", TO_ANNA + "Subject:\r\nSubject: two\r\n"), to + "Auto: \r\n\r\nr\r\n");
        Probe.due("none", answer("vacation \"r\";", TO_ANNA + "Subjects: x\r\n\r\nSubject: y\r\n"), to + "Auto: \r\n\r\nr\r\n");
        Probe.due("a long one", answer("vacation \"r\";", TO_ANNA + "Subject: " + "s".repeat(900) + "\r\n"), to + "Auto: " + "s".repeat(900) + "\r\n\r\nr\r\n");
    }

    private static void reasons() {
        Probe.sentence("CRLF, CRLF, the reason's text, CRLF");
        String before = "To: X@y\r\nSubject: Auto: \r\n\r\n";
        Probe.due("an empty one", answer("vacation \"\";", TO_ANNA), before + "\r\n");
        Probe.due("200 bytes", answer("vacation \"" + "r".repeat(200) + "\";", TO_ANNA), before + "r".repeat(200) + "\r\n");
        Probe.due("1000 bytes", answer("vacation text:\n" + "r".repeat(999) + "\n.\n;", TO_ANNA), before + "r".repeat(999) + "\n\r\n");
        Probe.due("any bytes", answer("vacation \"\\\"\\\\\n\u0001\u00ff\";", TO_ANNA), before + "\"\\\n\u0001\u00ff\r\n");
    }

    private static void takesNothingAway() {
        Probe.sentence("vacation takes nothing away. An answer is made at the end");
        Probe p = ready("vacation \"r\";");
        p.send("<x@y>", "anna@here", TO_ANNA);
        Probe.due("kept", p.boxes(0) + " " + p.call().count(1), "INBOX:1 1");
        p.send("<>", "anna@here", TO_ANNA);
        Probe.due("kept without an answer", p.boxes(0) + " " + p.call().count(1), "INBOX:2 1");
        p.activate(0, Bench.ALL + "vacation :handle \"h\" \"r\";stop;");
        p.send("<x@y>", "anna@here", TO_ANNA);
        Probe.due("with stop behind it", p.boxes(0) + " " + p.call().count(1), "INBOX:3 2");
        p.activate(0, Bench.ALL + "stop;vacation :handle \"i\" \"r\";");
        p.send("<x@y>", "anna@here", TO_ANNA);
        Probe.due("with stop ahead of it", p.boxes(0) + " " + p.call().count(1), "INBOX:4 2");
    }
}
