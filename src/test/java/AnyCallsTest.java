import java.util.Random;

/** Any calls in any order, the same ones each time: none throws, and no limit of the document is passed. */
public final class AnyCallsTest {
    private static final String[] SCRIPT_PIECES = {"require [\"fileinto\",\"reject\",\"envelope\",\"copy\",\"imap4flags\",\"relational\",\"vacation\",\"comparator-i;ascii-numeric\"];", "if ", "not ",
        "allof(", "anyof(", "true", "false", ")", ",", "{", "}", ";", "elsif ", "else ", "keep", "stop;", "discard;", "fileinto \"a\";", "fileinto :copy :flags \"\\\\Seen\" \"b\";", "redirect \"a@b\";",
        "reject \"no\";", "vacation :days 1 \"off\";", "setflag \"\\\\Draft\";", "header :contains \"a\" \"x\"", "address :domain \"to\" \"here\"", "envelope :matches \"from\" \"*\"", "hasflag :count \"gt\" \"0\"",
        "size :over 10", "exists [\"a\",\"to\"]", "\"", "\\", "text:\n", ".\n", "/*", "*/", "#", "\n", "9999999999", ":is ", "[", "]", "\u0000", "\u00ff"};
    private static final String[] MAIL_PIECES = {"LHLO x\r\n", "MAIL FROM:<s@x>\r\n", "MAIL FROM:<>\r\n", "RCPT TO:<anna@here>\r\n", "RCPT TO:<ben@here>\r\n", "RCPT TO:<dan@here>\r\n", "DATA\r\n", ".\r\n",
        "To: anna@here, ben@here\r\n", "a: x\r\n", " y\r\n", "\r\n", "RSET\r\n", "NOOP\r\n", "\r", "\n", "x", "<", "(", "\"", ",", "QUIT\r\n"};
    private static final String[] COMMAND_PIECES = {"SETACTIVE \"a\"\r\n", "SETACTIVE \"\"\r\n", "LISTSCRIPTS\r\n", "GETSCRIPT \"a\"\r\n", "DELETESCRIPT \"b\"\r\n", "RENAMESCRIPT \"a\" \"b\"\r\n", "HAVESPACE \"a\" 5\r\n",
        "LOGOUT\r\n", "PUTSCRIPT \"b\" {3+}\r\n", "CHECKSCRIPT \"", "\"", " ", "{9", "+}\r\n", "\r\n", "\\", "\u00ff"};
    private static final int[] EDGES = {0, 1, -1, 2, 3, 4, 5, 6, 7, 20, 6000, 6001, Integer.MAX_VALUE, Integer.MIN_VALUE};
    private static final int OBJECTS = 600;

    public static void main(String[] args) {
        Probe.sentence("An object is used for at most 512 calls");
        Random random = new Random(1);
        for (int object = 0; object < OBJECTS; object++) {
            Probe p = new Probe();
            while (p.callsLeft() > 200) {
                step(p, random);
            }
            limits(p);
        }
        Probe.end("AnyCallsTest");
    }

    private static int any(Random random) {
        return random.nextInt(4) == 0 ? random.nextInt() : EDGES[random.nextInt(EDGES.length)];
    }

    private static String pieces(Random random, String[] from, int most) {
        StringBuilder all = new StringBuilder();
        for (int i = random.nextInt(most); i >= 0; i--) {
            all.append(from[random.nextInt(from.length)]);
        }
        return all.length() > 1500 ? all.substring(0, 1500) : all.toString();
    }

    private static void step(Probe p, Random random) {
        int user = random.nextInt(4);
        switch (random.nextInt(14)) {
            case 0: case 1: come(p, user, "PUTSCRIPT \"a\" " + Probe.literal(pieces(random, SCRIPT_PIECES, 20)) + "\r\nSETACTIVE \"a\"\r\n"); break;
            case 2: come(p, user, pieces(random, COMMAND_PIECES, 8)); break;
            case 3: case 4: case 5: come(p, 4, pieces(random, MAIL_PIECES, 20)); break;
            case 6: p.call().connect(); break;
            case 7: p.call().tick(); break;
            case 8: p.call().cut(random.nextInt(3) == 0 ? any(random) : 0); break;
            case 9: p.call().start(); break;
            case 10: p.call().mail(any(random)); break;
            case 11: p.call().manage(any(random), any(random)); break;
            case 12: p.call().reply(any(random)); p.call().message(any(random), any(random), any(random), any(random)); break;
            default: p.call().bytes(any(random), any(random)); p.call().name(any(random), any(random), any(random)); p.call().messages(any(random), any(random)); p.call().count(any(random));
        }
    }

    /** Bytes that come to a session, if there is power for them and a session. */
    private static void come(Probe p, int session, String text) {
        if (p.callsLeft() < 330 || p.call().count(6) == 0) {
            p.call().start();
            p.call().count(0);
            return;
        }
        p.call().manage(0, 0);
        p.feed(text);
        int looked = session == 4 ? p.call().mail(text.length()) : p.call().manage(session, text.length());
        Probe.due("at most as many as came", looked <= text.length(), true);
    }

    private static void limits(Probe p) {
        int[] whats = {0, 1, 2, 5, 10, 11, 12, 13, 20, 21, 22, 23, 30, 31, 32, 33};
        int[] most = {400, 100, 150000, 6000, 4, 4, 4, 4, 40, 40, 40, 40, 6, 6, 6, 6};
        for (int i = 0; i < whats.length; i++) {
            int count = p.call().count(whats[i]);
            Probe.due("count " + whats[i], count >= 0 && count <= most[i], true);
        }
        int mails = p.call().count(1);
        for (int user = 0; user < 4; user++) {
            int boxes = p.call().count(30 + user);
            for (int box = 0; box < boxes; box++) {
                mails += p.call().messages(user, box);
            }
        }
        Probe.due("each message is in one place", mails, p.call().count(0));
    }
}
