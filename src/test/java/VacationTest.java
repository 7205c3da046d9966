/** Answers in one's absence, and their notes. */
public final class VacationTest {
    private static final String REQUIRE = "require [\"vacation\",\"reject\"];";
    private static final String TO_ANNA = "To: anna@here\r\n";

    public static void main(String[] args) {
        texts();
        whom();
        messages();
        addressed();
        days();
        senders();
        handles();
        notes();
        Probe.end("VacationTest");
    }

    private static Probe ready(String script) {
        Probe p = new Probe();
        p.activate(0, REQUIRE + script);
        p.greet();
        return p;
    }

    private static void answers(String what, Probe p, String from, String message, boolean due) {
        int before = p.call().count(1);
        int notes = p.call().count(20);
        p.send(from, "anna@here", message);
        Probe.due(what, p.call().count(1) - before, due ? 1 : 0);
        Probe.due("noted: " + what, p.call().count(20) - notes, due && notes < 40 ? 1 : 0);
    }

    private static void texts() {
        Probe p = ready("vacation :subject \"Off\" \"I am off.\";");
        p.send("<Joe@x.y>", "anna@here", TO_ANNA + "Subject: Hi\r\n");
        Probe.due("kept, too", p.boxes(0), "INBOX:1");
        Probe.due("a subject", p.bytes(1), "To: Joe@x.y\r\nSubject: Off\r\n\r\nI am off.\r\n");
        Probe.due("its address", p.name(4, 0), "Joe@x.y");
        p.activate(0, REQUIRE + "vacation text:\na\n..b\n.\n;discard;");
        p.send("<Joe@x.y>", "anna@here", "Cc: anna@here\r\nsubject:  Hi\r\n  there \r\nSubject: second\r\n");
        Probe.due("the message's subject", p.bytes(2), "To: Joe@x.y\r\nSubject: Auto: Hi  there\r\n\r\na\n.b\n\r\n");
        p.activate(0, REQUIRE + "vacation :subject \"\" \"c\";");
        p.send("<Joe@x.y>", "anna@here", TO_ANNA);
        Probe.due("an empty subject", p.bytes(4), "To: Joe@x.y\r\nSubject: \r\n\r\nc\r\n");
        p.activate(0, REQUIRE + "vacation \"\";");
        p.send("<Joe@x.y>", "anna@here", TO_ANNA);
        p.send("<Other@x.y>", "anna@here", "Subject: first\r\n" + TO_ANNA);
        Probe.due("a subject ahead of all", p.bytes(8), "To: Other@x.y\r\nSubject: Auto: first\r\n\r\n\r\n");
        Probe.due("no subject", p.bytes(6), "To: Joe@x.y\r\nSubject: Auto: \r\n\r\n\r\n");
    }

    private static void whom() {
        String[] never = {"<>", "<mailer-daemon@x>", "<Mailer-Daemon@x>", "<listserv@x>", "<MAJORDOMO@x>", "<owner-a@x>", "<Owner-@x>", "<a-request@x>", "<-REQUEST@x>"};
        String[] always = {"<mailer-daemons@x>", "<owner@x>", "<xowner-a@x>", "<request@x>", "<a-requests@x>", "<listserv.x@y>", "<a@listserv>"};
        Probe p = ready("vacation \"x\";");
        for (String from : never) {
            answers("to " + from, p, from, TO_ANNA, false);
        }
        Probe p2 = ready("vacation \"x\";");
        for (String from : always) {
            answers("to " + from, p2, from, TO_ANNA, true);
        }
    }

    private static void messages() {
        String[] never = {"List-Id: x\r\n", "list-post:\r\n", "PRECEDENCE: no\r\n", "Auto-Submitted: yes\r\n", "Auto-Submitted: no\r\nauto-submitted: auto\r\n",
            "Auto-Submitted:\r\n", "Auto-Submitted: no; x\r\n"};
        String[] always = {"List: x\r\n", "Auto-Submitted: No \r\n", "Auto-Submitted: no\r\nAuto-Submitted: NO\r\n", "\r\nList-Id: x\r\n"};
        Probe p = ready("vacation \"x\";");
        for (int i = 0; i < never.length; i++) {
            answers("of " + never[i], p, "<a@b>", i % 2 == 0 ? never[i] + TO_ANNA : TO_ANNA + never[i], false);
        }
        for (int i = 0; i < always.length; i++) {
            answers("of " + always[i], p, "<a" + i + "@b>", TO_ANNA + always[i], true);
        }
    }

    private static void addressed() {
        String[] never = {"", "To: ben@here\r\n", "To: anna\r\n", "From: anna@here\r\n", "X-To: anna@here\r\n", "To: \"anna@here\" <x@y>\r\n"};
        String[] always = {"CC: x@y, Anna <ANNA@Here>\r\n", "bcc: anna@here\r\n", "To: x@y\r\nTo: anna@here\r\n", "To: x@y,\r\n me@home\r\n", "Cc: Work@Office\r\n"};
        Probe p = ready("vacation :addresses [\"Me@home\",\"no address\",\"work@office\"] \"x\";");
        for (int i = 0; i < never.length; i++) {
            answers("for " + never[i], p, "<a@b>", never[i], false);
        }
        for (int i = 0; i < always.length; i++) {
            answers("for " + always[i], p, "<a" + i + "@b>", always[i], true);
        }
    }

    private static void days() {
        String[] tags = {"", ":days 0", ":days 1", ":days 3", ":days 30", ":days 31", ":days 2147483647"};
        int[] lasts = {7, 1, 1, 3, 30, 30, 30};
        for (int i = 0; i < tags.length; i++) {
            Probe p = ready("vacation " + tags[i] + " \"x\";");
            p.call().tick();
            answers("first" + tags[i], p, "<a@b>", TO_ANNA, true);
            answers("on the same day" + tags[i], p, "<a@b>", TO_ANNA, false);
            for (int day = 1; day < lasts[i]; day++) {
                p.call().tick();
            }
            answers("on the last day" + tags[i], p, "<a@b>", TO_ANNA, false);
            p.call().tick();
            answers("a day later" + tags[i], p, "<a@b>", TO_ANNA, true);
            answers("then again not" + tags[i], p, "<a@b>", TO_ANNA, false);
        }
    }

    private static void senders() {
        Probe p = ready("vacation \"x\";");
        answers("a sender", p, "<Joe@x>", TO_ANNA, true);
        answers("in other letters", p, "<jOE@X>", TO_ANNA, false);
        answers("another one", p, "<joe@xx>", TO_ANNA, true);
        Probe.due("two in one delivery", p.mail("MAIL FROM:<new@x>\r\nRCPT TO:<anna@here>\r\nRCPT TO:<anna@here>\r\nDATA\r\n" + TO_ANNA + ".\r\n").endsWith(
            "354 go\r\n250 2.0.0 <anna@here>\r\n250 2.0.0 <anna@here>\r\n"), true);
        Probe.due("one answer to them", p.call().count(20), 3);
        Probe.due("notes of another user", p.call().count(21), 0);
    }

    private static void handles() {
        Probe p = ready("vacation \"x\";");
        answers("the reason", p, "<a@b>", TO_ANNA, true);
        p.activate(0, REQUIRE + "vacation \"X\";");
        answers("another reason, by its bytes", p, "<a@b>", TO_ANNA, true);
        p.activate(0, REQUIRE + "vacation :handle \"x\" \"other\";");
        answers("a handle that is the same", p, "<a@b>", TO_ANNA, false);
        p.activate(0, REQUIRE + "vacation :handle \"\" \"x\";");
        answers("an empty handle", p, "<a@b>", TO_ANNA, true);
        p.activate(0, REQUIRE + "vacation :handle \"\" :subject \"s\" \"y\";");
        answers("the same handle", p, "<a@b>", TO_ANNA, false);
        Probe.due("notes", p.call().count(20), 3);
    }

    private static void notes() {
        Probe p = ready("vacation :days 30 \"x\";");
        String all = "MAIL FROM:<%@b>\r\nRCPT TO:<anna@here>\r\nDATA\r\n" + TO_ANNA + ".\r\n";
        for (int i = 0; i < 40; i++) {
            p.post(all.replace("%", "s" + i));
        }
        Probe.due("40 notes", p.call().count(20), 40);
        p.post(all.replace("%", "s0"));
        Probe.due("the first one is known", p.call().count(1), 40);
        p.post(all.replace("%", "s40"));
        Probe.due("one more answer", p.call().count(1), 41);
        Probe.due("still 40 notes", p.call().count(20), 40);
        p.post(all.replace("%", "s1"));
        Probe.due("the second one is known", p.call().count(1), 41);
        p.post(all.replace("%", "s0"));
        Probe.due("the first one gave way", p.call().count(1), 42);
        p.post(all.replace("%", "s1"));
        Probe.due("then the second one", p.call().count(1), 43);
    }
}
