/** Running a script: its tests, its flow and its actions. */
public final class RunningTest {
    private static final String ALL = "require [\"fileinto\",\"reject\",\"envelope\",\"copy\",\"imap4flags\",\"relational\",\"vacation\","
        + "\"comparator-i;ascii-numeric\"];";
    private static final String MESSAGE = "Subject: Hello World\r\nX: 12 apples\r\nX: 007\r\nFrom: Joe@Lists.org\r\nY: a*b\\c\r\nZ: _\r\n\r\nbody\r\n";
    private static Probe p;
    private static int asked;

    public static void main(String[] args) {
        matching();
        patterns();
        numeric();
        ordered();
        counted();
        parts();
        sizes();
        flow();
        flags();
        implicitKeep();
        once();
        failing();
        rejecting();
        outbox();
        manyBytes();
        oddBytes();
        Probe.end("RunningTest");
    }

    private static void renew() {
        p = new Probe();
        p.greet();
        asked = 0;
    }

    /** Whether a test of a script holds for the message. */
    private static void holds(String test, boolean due) {
        asked += 33 + test.length() / 20;
        if (p == null || asked > 350) {
            renew();
            asked = 33 + test.length() / 20;
        }
        p.activate(0, ALL + "if " + test + "{discard;}");
        int before = p.call().count(0);
        p.send("<Sam@Far.net>", "Anna@here", MESSAGE);
        Probe.due(test, p.call().count(0) == before, due);
    }

    private static void matching() {
        holds("header \"subject\" \"hello world\"", true);
        holds("header :is \"subject\" \"hello\"", false);
        holds("header :comparator \"i;octet\" \"subject\" \"hello world\"", false);
        holds("header :comparator \"i;octet\" \"subject\" \"Hello World\"", true);
        holds("header :contains \"subject\" \"O W\"", true);
        holds("header :contains \"subject\" \"ow\"", false);
        holds("header :contains \"subject\" \"\"", true);
        holds("header :contains :comparator \"i;octet\" \"subject\" \"O W\"", false);
        holds("header :contains [\"a\",\"x\"] [\"pears\",\"apples\"]", true);
        holds("header \"none\" \"\"", false);
    }

    private static void patterns() {
        String[] good = {"*", "hello*", "*WORLD", "h?llo w*d", "*o*o*", "hello world**", "\\h\\e*", "???????????", "*l?"};
        String[] bad = {"", "hello", "?", "h?llo", "*x*", "hello world?", "world*", "\\*", "*\\", "????????????", "h\\?llo*"};
        for (String key : good) {
            holds("header :matches \"subject\" \"" + key.replace("\\", "\\\\") + "\"", true);
        }
        for (String key : bad) {
            holds("header :matches \"subject\" \"" + key.replace("\\", "\\\\") + "\"", false);
        }
        holds("header :matches \"y\" \"a\\\\*b*\"", true);
        holds("header :matches \"y\" \"a\\\\*b\\\\\\\\c\"", true);
        holds("header :matches \"y\" \"*\\\\c\"", true);
        holds("header :matches \"x\" \"007\\\\\"", false);
        holds("header :matches \"subject\" \"*l\\\\d\"", true);
        holds("header :matches :comparator \"i;octet\" \"subject\" \"hello*\"", false);
        holds("header :matches :comparator \"i;octet\" \"subject\" \"H*d\"", true);
    }

    private static void numeric() {
        String numeric = "header :comparator \"i;ascii-numeric\" ";
        holds(numeric + "\"x\" \"0012 pears\"", true);
        holds(numeric + "\"x\" \"7\"", true);
        holds(numeric + "\"x\" \"1\"", false);
        holds(numeric + "\"x\" \"none\"", false);
        holds(numeric + "\"subject\" \"none\"", true);
        holds(numeric + ":contains \"x\" \"12\"", false);
        holds(numeric + ":matches \"x\" \"*\"", false);
        holds(numeric + ":value \"gt\" \"x\" \"11\"", true);
        holds(numeric + ":value \"gt\" \"x\" \"12\"", false);
        holds(numeric + ":value \"lt\" \"x\" \"99999999999999999999999999\"", true);
        holds(numeric + ":value \"gt\" \"subject\" \"99999999999999999999999999\"", true);
        holds(numeric + ":value \"lt\" \"x\" \"many\"", true);
        holds(numeric + ":value \"ge\" \"subject\" \"many\"", true);
        holds(numeric + ":value \"ne\" \"subject\" \"many\"", false);
    }

    private static void ordered() {
        String[] relations = {"gt", "ge", "lt", "le", "eq", "ne"};
        boolean[][] due = {{true, true, false, false, false, true}, {false, true, false, true, true, false}, {false, false, true, true, false, true}};
        String[] keys = {"Hello Worl", "HELLO WORLD", "hello worlds"};
        for (int k = 0; k < keys.length; k++) {
            for (int r = 0; r < relations.length; r++) {
                holds("header :value \"" + relations[r] + "\" \"subject\" \"" + keys[k] + "\"", due[k][r]);
            }
        }
        holds("header :value \"gt\" \"z\" \"a\"", true);
        holds("header :value \"gt\" :comparator \"i;octet\" \"z\" \"a\"", false);
        holds("header :value \"lt\" \"z\" \"\u00e9\"", true);
        holds("header :value \"lt\" \"subject\" \"i\"", true);
    }

    private static void counted() {
        holds("header :count \"eq\" [\"x\",\"X\",\"subject\"] \"3\"", true);
        holds("header :count \"eq\" \"none\" \"0\"", true);
        renew();
        p.activate(0, ALL + "if header :count \"eq\" \"x\" \"10\" {discard;}");
        p.send("<>", "anna@here", "x:1\r\n".repeat(10));
        p.send("<>", "anna@here", "x:1\r\n".repeat(11));
        p.send("<>", "anna@here", "x:1\r\n".repeat(100));
        Probe.due("ten of them", p.call().count(0), 2);
        holds("header :count \"gt\" \"x\" [\"5\",\"1 or more\"]", true);
        holds("header :count \"lt\" \"x\" \"many\"", true);
        holds("header :count \"ge\" \"x\" \"many\"", false);
        holds("header :count \"eq\" :comparator \"i;octet\" \"x\" \"02\"", true);
        holds("envelope :count \"eq\" [\"from\",\"FROM\",\"to\",\"cc\"] \"2\"", true);
        holds("hasflag :count \"eq\" \"0\"", true);
    }

    private static void parts() {
        holds("address \"from\" \"joe@lists.org\"", true);
        holds("address :all :comparator \"i;octet\" \"from\" \"Joe@Lists.org\"", true);
        holds("address :localpart \"from\" \"joe\"", true);
        holds("address :domain \"from\" \"lists.org\"", true);
        holds("address :domain \"from\" \"joe\"", false);
        holds("address \"subject\" \"hello\"", false);
        holds("envelope \"from\" \"sam@far.net\"", true);
        holds("envelope :comparator \"i;octet\" \"to\" \"Anna@here\"", true);
        holds("envelope :localpart \"to\" \"anna\"", true);
        holds("envelope :domain [\"from\",\"to\"] \"here\"", true);
        holds("envelope \"subject\" \"hello world\"", false);
        holds("envelope \"to\" \"sam@far.net\"", false);
        holds("envelope \"from\" \"anna@here\"", false);
        renew();
        p.activate(0, ALL + "if allof(envelope \"from\" \"\",envelope :domain \"from\" \"\",envelope :count \"eq\" \"from\" \"1\"){discard;}");
        p.send("<>", "anna@here", MESSAGE);
        Probe.due("without a sender", p.call().count(0), 0);
    }

    private static void sizes() {
        int size = MESSAGE.length();
        holds("size :over " + size, false);
        holds("size :over " + (size - 1), true);
        holds("size :under " + size, false);
        holds("size :under " + (size + 1), true);
        holds("size :under 1K", true);
        holds("size :over 1k", false);
    }

    private static void flow() {
        holds("allof(true,true,not false)", true);
        holds("allof(true,false,true)", false);
        holds("anyof(false,false)", false);
        holds("anyof(false,allof(true,anyof(false,true)),false)", true);
        holds("not anyof(allof(true,false),false)", true);
        holds("not allof(not anyof(true,false),true)", true);
        holds("anyof(not true,not not true)", true);
        renew();
        p.activate(1, ALL + "if false{fileinto \"a\";}elsif true{if true{fileinto \"b\";}else{fileinto \"c\";}fileinto \"d\";}elsif true{fileinto \"e\";}else{fileinto \"f\";}"
            + "if false{}else{keep;}stop;discard;fileinto \"g\";");
        p.send("<>", "ben@here", MESSAGE);
        Probe.due("flow", p.boxes(1), "INBOX:1 b:1 d:1");
        Probe.due("order of messages", p.call().message(1, 0, 0, 2), 2);
        p.activate(1, ALL + "if false{if true{fileinto \"x\";}elsif true{}}elsif false{}else{fileinto \"b\";if true{stop;}fileinto \"x\";}fileinto \"y\";");
        p.send("<>", "ben@here", MESSAGE);
        Probe.due("stop within blocks", p.boxes(1), "INBOX:1 b:2 d:1");
    }

    private static void flags() {
        renew();
        p.activate(0, ALL + "setflag [\"\\\\seen\",\"\\\\Draft\",\"\\\\Foo\",\"Seen\"];addflag \"\\\\FLAGGED\";fileinto \"a\";removeflag [\"\\\\Draft\",\"\\\\Deleted\"];"
            + "fileinto \"b\";fileinto :flags \"foo\" \"c\";fileinto :flags [\"\\\\Answered\"] \"d\";"
            + "if allof(hasflag \"\\\\Seen\",hasflag :comparator \"i;octet\" \"\\\\Flagged\",hasflag :contains \"flag\",hasflag :count \"eq\" \"2\",not hasflag \"\\\\draft\")"
            + "{setflag \"\\\\Deleted\";fileinto :copy \"e\";}");
        p.send("<>", "anna@here", "x\r\n");
        Probe.due("flags", p.boxes(0), "INBOX:0 a:1/21 b:1/5 c:1 d:1/2 e:1/8");
        p.activate(0, ALL + "setflag \"\\\\Seen\";fileinto :copy \"a\";setflag [\"\\\\Answered\",\"\\\\Seen\"];removeflag \"\\\\Seen\";");
        p.send("<>", "anna@here", "x\r\n");
        Probe.due("the implicit keep has those set at the end", p.call().message(0, 0, 0, 1), 2);
        Probe.due("the copy those set then", p.call().message(0, 1, 1, 1), 1);
        p.activate(0, ALL + "addflag [\"\\\\Draft\",\"\\\\Answered\"];if allof(hasflag \"\\\\draft\",hasflag \"\\\\answered\",not hasflag \"\\\\deleted\"){discard;}");
        p.send("<>", "anna@here", "x\r\n");
        Probe.due("the last flag", p.call().messages(0, 0), 1);
        p.activate(0, ALL + "addflag \"\\\\Seen\";keep;addflag \"\\\\Draft\";");
        p.send("<>", "anna@here", "x\r\n");
        Probe.due("none at the beginning", p.call().message(0, 0, 1, 1), 1);
    }

    private static void implicitKeep() {
        String[] scripts = {"", "stop;", "addflag \"a\";", "vacation \"x\";", "discard;", "keep;", "fileinto \"a\";", "fileinto :copy \"a\";", "redirect \"a@b\";",
            "redirect :copy \"a@b\";", "reject \"x\";", "fileinto :copy \"a\";fileinto \"a\";", "redirect :copy \"a@b\";redirect \"A@B\";"};
        int[] kept = {1, 1, 1, 1, 0, 1, 0, 1, 0, 1, 0, 0, 0};
        for (int i = 0; i < scripts.length; i++) {
            if (i % 8 == 0) {
                renew();
            }
            p.activate(3, ALL + scripts[i]);
            int before = p.call().messages(3, 0);
            p.send("<x@y>", "dan@here", "");
            Probe.due("kept by " + scripts[i], p.call().messages(3, 0) - before, kept[i]);
        }
    }

    private static void once() {
        renew();
        p.activate(0, ALL + "keep :flags \"\\\\Seen\";keep;fileinto \"inBox\";fileinto \"A\";fileinto \"a\";fileinto :flags \"\\\\Draft\" \"A\";"
            + "redirect \"x@y\";redirect \"X@Y\";redirect \"z@y\";redirect :copy \"x@Y\";");
        p.send("<>", "anna@here", "x\r\n");
        Probe.due("the same mailbox counts once", p.boxes(0), "INBOX:1/1 A:1 a:1");
        Probe.due("the same address counts once", p.call().count(1), 2);
        Probe.due("as it was first told", p.name(4, 0) + " " + p.name(4, 1), "x@y z@y");
        p.activate(0, ALL + "fileinto \"A\";fileinto \"aa\";fileinto \"AA\";");
        p.send("<>", "anna@here", "x\r\n");
        Probe.due("letters tell mailboxes apart", p.boxes(0), "INBOX:1/1 A:2 a:1 aa:1 AA:1");
        p.activate(0, ALL + "fileinto :copy :flags \"\\\\Seen\" \"INBOX\";");
        p.send("<>", "anna@here", "x\r\n");
        Probe.due("with the implicit keep, too", p.call().messages(0, 0), 2);
        Probe.due("its flags", p.call().message(0, 0, 1, 1), 1);
    }

    private static void failing() {
        String[] scripts = {
            "addflag \"\\\\Seen\";redirect \"a@b\";redirect \"b@b\";redirect \"c@b\";redirect \"d@b\";redirect :copy \"e@b\";",
            "reject \"x\";keep;", "keep;reject \"x\";", "reject \"x\";fileinto \"a\";", "fileinto :copy \"a\";reject \"x\";", "redirect :copy \"a@b\";reject \"x\";",
            "reject \"x\";redirect :copy \"a@b\";", "reject \"x\";vacation \"y\";", "vacation \"y\";reject \"x\";", "reject \"x\";reject \"x\";",
            "fileinto \"z\";discard;vacation \"x\";vacation \"x\";", "fileinto \"a\";fileinto \"b\";fileinto \"c\";fileinto \"d\";fileinto \"e\";fileinto \"f\";",
            "addflag \"\\\\Seen\";fileinto \"1\";fileinto \"2\";fileinto \"3\";fileinto \"4\";fileinto \"5\";fileinto :copy \"6\";"};
        for (int i = 0; i < scripts.length; i++) {
            if (i % 5 == 0) {
                renew();
            }
            p.activate(0, ALL + scripts[i]);
            int before = p.call().messages(0, 0);
            p.send("<x@y>", "anna@here", "To: anna@here\r\n");
            Probe.due("kept alone by " + scripts[i], p.call().messages(0, 0) - before, 1);
            Probe.due("nothing else", p.call().count(1) + p.call().count(20) + p.call().count(30), 1);
            Probe.due("without flags", p.call().message(0, 0, before, 1), 0);
        }
        notFailing();
    }

    private static void notFailing() {
        renew();
        p.activate(0, ALL + "redirect \"a@b\";redirect \"b@b\";redirect \"c@b\";redirect \"d@b\";redirect \"A@b\";");
        p.send("<x@y>", "anna@here", "x\r\n");
        Probe.due("four addresses", p.call().count(1) * 10 + p.call().messages(0, 0), 40);
        p.activate(0, ALL + "fileinto \"1\";fileinto \"2\";fileinto \"3\";fileinto \"4\";fileinto \"5\";fileinto \"inbox\";");
        p.send("<x@y>", "anna@here", "x\r\n");
        Probe.due("six mailboxes", p.boxes(0), "INBOX:1 1:1 2:1 3:1 4:1 5:1");
        p.activate(0, ALL + "fileinto \"5\";");
        p.send("<x@y>", "anna@here", "x\r\n");
        p.activate(0, ALL + "fileinto \"6\";");
        p.send("<x@y>", "anna@here", "x\r\n");
        Probe.due("one of them, and a seventh one", p.boxes(0), "INBOX:2 1:1 2:1 3:1 4:1 5:2");
        Probe.due("of one user only", p.call().count(31), 1);
    }

    private static void rejecting() {
        renew();
        p.activate(0, ALL + "discard;reject text:\r\nNo.\r\n..x\r\n.y\r\n.\r\n;stop;");
        p.send("<Joe@x.y>", "anna@here", "Subject: Hi\r\n");
        Probe.due("refused", p.bytes(0), "To: Joe@x.y\r\nSubject: Refused\r\n\r\nNo.\r\n.x\r\n.y\r\n\r\n");
        Probe.due("its address", p.name(4, 0), "Joe@x.y");
        Probe.due("no note", p.call().count(20), 0);
        p.send("<>", "anna@here", "Subject: Hi\r\n");
        Probe.due("no answer without a sender", p.call().count(0), 1);
        p.send("<Joe@x.y>", "anna@here", "Subject: Hi\r\n");
        Probe.due("each time", p.call().count(1), 2);
    }

    private static void outbox() {
        renew();
        p.activate(0, ALL + "redirect \"a@b\";redirect \"b@b\";redirect \"c@b\";redirect \"d@b\";vacation :handle \"h\" \"r\";");
        String four = "MAIL FROM:<>\r\n" + "RCPT TO:<anna@here>\r\n".repeat(4) + "DATA\r\n.\r\n";
        for (int i = 0; i < 6; i++) {
            p.post(four);
        }
        p.replies(4);
        Probe.due("96 in the outbox", p.call().count(1), 96);
        String answer = p.send("<x@y>", "anna@here", "To: anna@here\r\n");
        Probe.due("an answer is one more", answer, "452 4.2.2 full\r\n");
        Probe.due("nothing of it", p.call().count(0) + p.call().count(20), 96);
        Probe.due("without an answer it fits", p.send("<x@y>", "anna@here", "\r\n"), "250 2.0.0 <anna@here>\r\n");
        Probe.due("100 in the outbox", p.call().count(1), 100);
        Probe.due("mailboxes have room", p.send("<x@y>", "dan@here", "\r\n"), "250 2.0.0 <dan@here>\r\n");
    }

    private static void oddBytes() {
        renew();
        p.activate(0, ALL + "fileinto \"1\";fileinto \"2\";fileinto \"3\";fileinto \"4\";fileinto \"5\";keep;"
            + "redirect \"a@b\";redirect \"b@b\";redirect \"c@b\";redirect \"d@b\";");
        p.post("MAIL FROM:<>\r\n" + "RCPT TO:<anna@here>\r\n".repeat(4) + "DATA\r\n" + "z".repeat(3747) + "\r\n.\r\n");
        p.replies(4);
        Probe.due("39 more", p.send("<>", "dan@here", "z".repeat(37) + "\r\n"), "250 2.0.0 <dan@here>\r\n");
        Probe.due("149999 bytes", p.call().count(2), 149999);
        Probe.due("150001 would be", p.send("<>", "dan@here", "\r\n"), "452 4.2.2 full\r\n");
    }

    private static void manyBytes() {
        renew();
        p.activate(0, ALL + "fileinto \"1\";fileinto \"2\";fileinto \"3\";fileinto \"4\";fileinto \"5\";keep;"
            + "redirect \"a@b\";redirect \"b@b\";redirect \"c@b\";redirect \"d@b\";");
        p.post("MAIL FROM:<>\r\n" + "RCPT TO:<anna@here>\r\n".repeat(4) + "DATA\r\n" + "z".repeat(3748) + "\r\n.\r\n");
        Probe.due("40 times 3750 bytes", p.call().count(2), 150000);
        p.replies(4);
        Probe.due("none more", p.send("<>", "dan@here", "\r\n"), "452 4.2.2 full\r\n");
        Probe.due("but of no bytes", p.send("<>", "dan@here", ""), "250 2.0.0 <dan@here>\r\n");
    }
}
