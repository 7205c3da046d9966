import java.util.Random;

/**
 * Runs of any calls, the same ones each time: the class answers like PlainMail, the document written a second time.
 * A run may have more than the 512 calls that are promised: only so it gets to the limits of the store.
 */
public final class TwoWritingsTest {
    private static final int RUNS = 1000;
    private static final String[] SENDERS = {"s@x.y", "S@X.Y", "a@b", "owner-x@y", "x-request@y", "LISTSERV@z", "mailer-daemon@q", "owner@y", "t@u", "12@34"};
    private static final String[] LINES = {"LHLO x", "lhlo a.b-c", "LHLO", "LHLO a..b", "LHLO  x", "MAIL FROM:<>", "MAIL FROM:<s@x.y>", "mail from:<a@b> SIZE=4000 body=8bitmime",
        "MAIL FROM:<a@b> SIZE=4001", "MAIL FROM:<a@b> SIZE=1234567890", "MAIL FROM:<a@b> ", "MAIL FROM: <a@b>", "MAIL TO:<a@b>", "MAIL FROM:<a@b>x", "MAIL FROM:<.a@b>",
        "RCPT TO:<anna@here>", "rcpt to:<BEN@Here>", "RCPT TO:<cleo@here>", "RCPT TO:<dan@here>", "RCPT TO:<eve@here>", "RCPT TO:<anna@here> ", "RCPT TO:<>", "RCPT", "DATA", "DATA x",
        "RSET", "RSET ", "NOOP", "noop", "NOOP x", "QUIT", "QUIT x", "HELO x", "", " NOOP", ".", "\rNOOP", "NOOP\r", "NO\nOP", "MAILFROM:<a@b>"};
    private static final String[] FIELDS = {"To: anna@here, ben@here", "to: Cleo@Here", "Cc: dan@here", "From: s@x.y", "Subject: a", "Subject: A B", "subject:  \t12 ", "X-A: 007", "X-A: x1", "x-b: ",
        "X-A:a\r\n b", "Subject:\r\n\tab\r\n ", "List-Id: x", "Precedence: y", "Auto-Submitted: no", "Auto-Submitted: NO", "Auto-Submitted: yes", "Bcc: a@b", "X-A : a", "X-A\t :b", ":x", "X A: b", "x", " x",
        "X-A: \u00e4", "List-Post: z", "Subject: 99999999999999999999x", "X-B: *"};
    private static final String[] VALUES = {"anna@here", "ben@here", "a@b", "s@x.y", "<", ">", "(", ")", "\"", "\\", ",", ",", " ", "\t", "\r\n ", "x", "@", ".", "a", "<a@b>", "(c)", "\"q\"", "<anna@here>", ", "};
    private static final String[] FEW = {"a", "b", "A", "B", "0", "1", " ", "*", "?", "\\", "\u00e4"};
    private static final String[] NAMES = {"a", "b", "c", "d", "A", "a\\\\b", "\\\"", "12345678901234567890"};
    private static final int[] NUMBERS = {0, 1, 2, 3, 4, 5, 6, 7, 8, 9, 10, 13, 14, 20, 23, 24, 29, 30, 33, 34, 40, -1, 100, 1000, 1001, Integer.MAX_VALUE, Integer.MIN_VALUE};

    /** Tells by flags which addresses it finds in X-A. */
    private static final String FINDER = Bench.ALL + "if address \"x-a\" \"a@b\" {addflag \"\\\\Seen\";} if address :contains \"x-a\" \"n@h\" {addflag \"\\\\Answered\";}"
        + "if address :count \"ge\" \"x-a\" \"1\" {addflag \"\\\\Flagged\";} if address :count \"ge\" \"x-a\" \"2\" {addflag \"\\\\Deleted\";}"
        + "if address :value \"ge\" :domain \"x-a\" \"i\" {addflag \"\\\\Draft\";}";

    private final Random random;
    private final SortedMail mail = new SortedMail();
    private final PlainMail plain = new PlainMail();

    private TwoWritingsTest(long seed) {
        random = new Random(seed);
    }

    /** Of an argument the first run is taken, and of a second one how many there are. */
    public static void main(String[] args) {
        int first = args.length > 0 ? Integer.parseInt(args[0]) : 0;
        int runs = args.length > 1 ? Integer.parseInt(args[1]) : RUNS;
        for (int i = first; i < first + runs; i++) {
            Probe.sentence("run " + i);
            new TwoWritingsTest(i).run();
        }
        Probe.end("TwoWritingsTest");
    }

    private String of(String... these) {
        return these[random.nextInt(these.length)];
    }

    private boolean once(int in) {
        return random.nextInt(in) == 0;
    }

    private int any() {
        return once(3) ? random.nextInt(40) : NUMBERS[random.nextInt(NUMBERS.length)];
    }

    private void run() {
        int steps = 10 + random.nextInt(30);
        connect();
        come(4, "LHLO x\r\n");
        for (int i = 0; i < steps; i++) {
            step();
        }
        if (once(15)) {
            crowd();
        } else if (once(4)) {
            findAddresses();
        }
        all();
    }

    private void findAddresses() {
        wake();
        come(3, "PUTSCRIPT \"s\" " + Probe.literal(FINDER) + "\r\nSETACTIVE \"s\"\r\n");
        for (int i = 0; i < 30; i++) {
            StringBuilder value = new StringBuilder();
            for (int j = random.nextInt(9); j >= 0; j--) {
                value.append(of(VALUES));
            }
            come(4, "RSET\r\nMAIL FROM:<>\r\nRCPT TO:<dan@here>\r\nDATA\r\nX-A:" + value + "\r\n.\r\n");
        }
    }

    /** Many letters, up to the limits of the store and of the notes. */
    private void crowd() {
        String four = "RCPT TO:<anna@here>\r\n".repeat(1 + random.nextInt(4));
        int letters = 20 + random.nextInt(80);
        int size = once(2) ? 3900 : random.nextInt(400);
        boolean away = once(2);
        wake();
        come(0, "PUTSCRIPT \"s\" " + Probe.literal(away ? "require \"vacation\"; vacation \"off\";" : AnyScripts.make(random)) + "\r\nSETACTIVE \"s\"\r\n");
        for (int i = 0; i < letters; i++) {
            String body = "y".repeat(random.nextInt(size + 1));
            come(4, "RSET\r\nMAIL FROM:<s" + random.nextInt(60) + "@x>\r\n" + four + "DATA\r\nTo: anna@here\r\n\r\n" + body + "\r\n.\r\n");
            if (once(9)) {
                Probe.due("tick", mail.tick(), plain.tick());
            }
        }
    }

    private void step() {
        int user = random.nextInt(once(9) ? 4 : 2);
        switch (random.nextInt(20)) {
            case 0: case 1: case 2: case 3: case 4:
                String script = AnyScripts.make(random);
                come(user, "PUTSCRIPT \"s\" " + Probe.literal(script) + "\r\nSETACTIVE \"s\"\r\n");
                break;
            case 5: case 6: come(user, commands()); break;
            case 7: case 8: case 9: case 10: case 11: come(4, letter()); break;
            case 12: case 13: come(4, lines()); break;
            case 14: Probe.due("tick", mail.tick(), plain.tick()); break;
            case 15:
                int k = once(2) ? any() : 1 + random.nextInt(3);
                Probe.due("cut " + k, mail.cut(k), plain.cut(k));
                break;
            default: questions();
        }
    }

    private void connect() {
        Probe.due("connect", mail.connect(), plain.connect());
    }

    /** Power and a session of delivery, in most cases. */
    private void wake() {
        if (plain.count(6) == 0 && !once(4)) {
            Probe.due("start", mail.start(), plain.start());
        }
        if (plain.count(7) == 0 && !once(4)) {
            connect();
            come(4, "LHLO x\r\n");
        }
    }

    /** A text that comes to a session, at times in two calls. */
    private void come(int session, String text) {
        if (plain.count(7) == 0 || plain.count(6) == 0) {
            if (!text.equals("LHLO x\r\n")) {
                wake();
            }
        }
        int middle = once(3) ? random.nextInt(text.length() + 1) : text.length();
        part(session, text.substring(0, middle));
        part(session, text.substring(middle));
    }

    private void part(int session, String text) {
        if (plain.count(5) > 0 && once(8)) {
            Probe.due("manage 0", mail.manage(3, 0), plain.manage(3, 0));
        }
        boolean empty = plain.count(5) == 0;
        for (int at = 0; at < text.length(); at += 20) {
            int[] five = new int[5];
            for (int j = 0; j < 20; j++) {
                five[j / 4] = five[j / 4] << 8 | (at + j < text.length() ? text.charAt(at + j) : 0);
            }
            Probe.due("feed", mail.feed(five[0], five[1], five[2], five[3], five[4]), plain.feed(five));
        }
        int n = empty && !once(50) ? text.length() : any();
        if (session == 4) {
            Probe.due("mail " + text, mail.mail(n), plain.mail(n));
        } else {
            Probe.due("manage " + text, mail.manage(session, n), plain.manage(session, n));
        }
        if (!once(6)) {
            replies(session, text);
        }
    }

    private void replies(int session, String to) {
        StringBuilder his = new StringBuilder();
        StringBuilder due = new StringBuilder();
        for (int turn = 0; turn < 1500; turn++) {
            long got = mail.reply(session);
            long wanted = plain.reply(session);
            add(his, got);
            add(due, wanted);
            if (got == 0 && wanted == 0) {
                break;
            }
        }
        Probe.due("replies to " + to, his.toString(), due.toString());
    }

    private static void add(StringBuilder all, long seven) {
        for (int j = 0; j < seven >>> 56; j++) {
            all.append((char) (seven >> 8 * (6 - j) & 255));
        }
    }

    private String lines() {
        StringBuilder all = new StringBuilder();
        for (int i = random.nextInt(6); i >= 0; i--) {
            all.append(once(40) ? "x".repeat(490 + random.nextInt(20)) : of(LINES)).append(once(30) ? of("\r", "\n", "") : "\r\n");
        }
        return all.toString();
    }

    private String letter() {
        StringBuilder all = new StringBuilder(of("", "", "RSET\r\n", ".\r\nRSET\r\n"));
        all.append("MAIL FROM:<").append(once(6) ? "" : of(SENDERS)).append(">\r\n");
        for (int i = once(3) ? random.nextInt(5) : 0; i >= 0; i--) {
            all.append("RCPT TO:<").append(of("anna@here", "anna@here", "Anna@HERE", "ben@here", "ben@here", "ben@here", "cleo@here")).append(">\r\n");
        }
        all.append("DATA\r\n").append(header());
        if (once(2)) {
            all.append("\r\n").append(of("", "body\r\n", "..\r\n", ".x\r\n", "a\rb\nc\r\n", ".\rx\r\n", "\r\r\n", ".\nx\r\n"));
        }
        if (once(12)) {
            int size = once(3) ? 4000 - all.length() + random.nextInt(200) : random.nextInt(3000);
            all.append("y".repeat(Math.max(0, size))).append("\r\n");
        }
        String text = all + (once(20) ? "" : ".\r\n");
        return text.length() > 5900 ? text.substring(0, 5900) : text;
    }

    private String header() {
        StringBuilder all = new StringBuilder();
        if (!once(4)) {
            all.append("To: ben@here, anna@here\r\n");
        }
        for (int i = random.nextInt(6); i > 0; i--) {
            if (once(2)) {
                all.append(of(FIELDS)).append("\r\n");
                continue;
            }
            all.append(of("To", "Cc", "Bcc", "From", "X-A", "Subject")).append(":");
            boolean few = once(2);
            for (int j = random.nextInt(9); j > 0; j--) {
                all.append(few ? of(FEW) : of(VALUES));
            }
            all.append("\r\n");
        }
        return all.toString();
    }

    private String quoted() {
        return once(6) ? Probe.literal(of("a", "b", "", "x\ty", "c")) : "\"" + of(NAMES) + "\"";
    }

    private String commands() {
        StringBuilder all = new StringBuilder();
        for (int i = random.nextInt(5); i >= 0; i--) {
            switch (random.nextInt(12)) {
                case 0: all.append("LISTSCRIPTS"); break;
                case 1: all.append("GETSCRIPT ").append(quoted()); break;
                case 2: all.append("SETACTIVE ").append(once(3) ? "\"\"" : quoted()); break;
                case 3: all.append("DELETESCRIPT ").append(quoted()); break;
                case 4: all.append("renamescript ").append(quoted()).append(" ").append(quoted()); break;
                case 5: all.append("HAVESPACE ").append(quoted()).append(" ").append(of("0", "2000", "2001", "999999999", "1234567890", "0002000", "x")); break;
                case 6: all.append("PutScript ").append(quoted()).append(" ").append(once(2) ? "\"keep;\"" : Probe.literal(AnyScripts.make(random))); break;
                case 7: case 8: all.append("CHECKSCRIPT ").append(Probe.literal(AnyScripts.make(random))); break;
                case 9: all.append(of("LOGOUT", "logout", "LOGOUT 1", "FOO", "", "LISTSCRIPTS ", "1", " LOGOUT", "GETSCRIPT", "GETSCRIPT 5", "FOO {3+}\r\na\r\n", "GETSCRIPT  \"a\"", "X \"a\" 1 2 3")); break;
                case 10: all.append(of("GETSCRIPT {2001+}", "GETSCRIPT {1}", "GETSCRIPT {+}", "GETSCRIPT {1234567890+}", "GETSCRIPT \"", "GETSCRIPT \"a\"b", "X\r", "X \"\\", "\r", "\n")); break;
                default: all.append("CHECKSCRIPT \"").append("#".repeat(once(3) ? 195 + random.nextInt(10) : 3)).append("\"");
            }
            all.append(once(30) ? of("\r", "\n", " ") : "\r\n");
        }
        return all.length() > 5900 ? all.substring(0, 5900) : all.toString();
    }

    private void questions() {
        int[] n = {any(), any(), any(), any()};
        Probe.due("count", mail.count(n[0]), plain.count(n[0]));
        Probe.due("messages", mail.messages(n[0], n[1]), plain.messages(n[0], n[1]));
        Probe.due("message", mail.message(n[0], n[1], n[2], n[3]), plain.message(n[0], n[1], n[2], n[3]));
        Probe.due("bytes", mail.bytes(n[0], n[1]), plain.bytes(n[0], n[1]));
        Probe.due("name", mail.name(n[0], n[1], n[2]), plain.name(n[0], n[1], n[2]));
        Probe.due("reply", mail.reply(n[0]), plain.reply(n[0]));
        if (once(4)) {
            Probe.due("mail", mail.mail(n[0]), plain.mail(n[0]));
            Probe.due("manage", mail.manage(n[0], n[1]), plain.manage(n[0], n[1]));
            Probe.due("start", mail.start(), plain.start());
        }
    }

    /** All that can be asked about the store. */
    private void all() {
        for (int what = -1; what < 40; what++) {
            Probe.due("count " + what, mail.count(what), plain.count(what));
        }
        for (int n = 0; n <= plain.count(0); n++) {
            for (int i = 0; i < 4200; i += 8) {
                long wanted = plain.bytes(n, i);
                Probe.due("bytes " + n, mail.bytes(n, i), wanted);
                if (wanted <= 0) {
                    break;
                }
            }
        }
        for (int user = 0; user < 5; user++) {
            for (int k = 0; k < (user < 4 ? 7 : plain.count(1) + 1); k++) {
                Probe.due("messages", mail.messages(user, k), plain.messages(user, k));
                for (int i = 0; i < 32; i += 8) {
                    Probe.due("name " + user, mail.name(user, k, i), plain.name(user, k, i));
                }
                for (int i = 0; i <= plain.messages(user, k); i++) {
                    for (int what = 0; what < 4; what++) {
                        Probe.due("message " + user + " " + k + " " + i + " " + what, mail.message(user, k, i, what), plain.message(user, k, i, what));
                    }
                }
            }
        }
        for (int session = 0; session < 5; session++) {
            replies(session, "all");
        }
    }
}
