import java.util.function.Supplier;

/** One object under test, spoken to in texts; it counts its calls, as only 512 of them are promised. */
final class Probe {
    static final int DELIVERY = 4;
    private static final int MOST_CALLS = 512;
    private static int wrong = 0;
    private static int checked = 0;
    private static String sentence = "";

    final SortedMail mail = new SortedMail();
    private int calls = 0;

    /** Ends a test: with exit code 1 if one answer was not the one that is due. */
    static void end(String test) {
        System.out.println(test + ": " + checked + " answers looked at, " + wrong + " not as due");
        if (wrong != 0 || checked == 0) {
            System.exit(1);
        }
    }

    /** The sentence of the document that the next answers are held against. */
    static void sentence(String text) {
        sentence = "(" + text + ") ";
    }

    static void due(String what, Object got, Object want) {
        checked++;
        if (!want.equals(got)) {
            wrong++;
            System.out.println(sentence + what + ": answered [" + shown(got) + "], due is [" + shown(want) + "]");
        }
    }

    private static String shown(Object it) {
        String text = it.toString().replace("\r", "\\r").replace("\n", "\\n");
        return text.length() > 1000 ? text.substring(0, 1000) + " .." : text;
    }

    /** Counts a call that is about to be made. */
    SortedMail call() {
        calls++;
        if (calls == MOST_CALLS + 1) {
            due("calls of one object", calls, MOST_CALLS);
        }
        return mail;
    }

    int callsLeft() {
        return MOST_CALLS - calls;
    }

    static Probe greeted() {
        Probe p = new Probe();
        p.greet();
        return p;
    }

    /** The power goes, with no other change than that. */
    void goDark() {
        due("cut", call().cut(1), true);
        due("the day that is cut", call().tick(), -1);
    }

    /** What the counts and the INBOXes tell. */
    String state() {
        int[] whats = {0, 1, 2, 3, 4, 5, 6, 7, 10, 11, 12, 13, 20, 21, 22, 23, 30, 31, 32, 33};
        StringBuilder all = new StringBuilder();
        for (int what : whats) {
            all.append(what).append(':').append(call().count(what)).append(' ');
        }
        for (int user = 0; user < 4; user++) {
            all.append(call().messages(user, 0)).append(' ');
        }
        return all.toString();
    }

    /** A call that has to answer so, and to change nothing that can be asked. */
    void refused(String what, Supplier<Object> asked, Object answer) {
        String before = state();
        due(what, asked.get(), answer);
        due(what + " has changed nothing", state(), before);
    }

    /** Feeds a text, with zeros behind it up to a multiple of 20 bytes. */
    void feed(String text) {
        int[] words = new int[5];
        for (int at = 0; at < text.length(); at += 20) {
            for (int w = 0; w < 5; w++) {
                words[w] = 0;
                for (int j = 0; j < 4; j++) {
                    int i = at + 4 * w + j;
                    words[w] = words[w] << 8 | (i < text.length() ? text.charAt(i) & 255 : 0);
                }
            }
            due("feed", call().feed(words[0], words[1], words[2], words[3], words[4]), true);
        }
    }

    String replies(int session) {
        StringBuilder all = new StringBuilder();
        for (int turn = 0; turn < 2000; turn++) {
            long seven = call().reply(session);
            int taken = (int) (seven >>> 56);
            for (int j = 0; j < taken; j++) {
                all.append((char) (seven >> 8 * (6 - j) & 255));
            }
            if (taken < 7) {
                break;
            }
        }
        return all.toString();
    }

    /** What a user's session answers to a text. */
    String manage(int user, String text) {
        command(user, text);
        return replies(user);
    }

    /** Like manage, but the answers are left to wait. */
    void command(int user, String text) {
        feed(text);
        due("manage", call().manage(user, text.length()), text.length());
    }

    /** What the session of delivery answers to a text. */
    String mail(String text) {
        post(text);
        return replies(DELIVERY);
    }

    /** Like mail, but the answers are left to wait. */
    void post(String text) {
        feed(text);
        due("mail", call().mail(text.length()), text.length());
    }

    static String literal(String script) {
        return "{" + script.length() + "+}\r\n" + script;
    }

    /** Makes a script a user's active one. */
    void activate(int user, String script) {
        due("script " + script, manage(user, "PUTSCRIPT \"s\" " + literal(script) + "\r\nSETACTIVE \"s\"\r\n"), "OK\r\nOK\r\n");
    }

    /** The line of a script's fault, 0 without one. */
    int faultOf(String script) {
        String answer = manage(0, "CHECKSCRIPT " + literal(script) + "\r\n");
        if (answer.equals("OK\r\n")) {
            return 0;
        }
        boolean told = answer.startsWith("NO \"line ") && answer.endsWith("\"\r\n");
        return told ? Integer.parseInt(answer.substring(9, answer.length() - 3)) : -1;
    }

    void greet() {
        due("connect", call().connect(), true);
        due("greeting", mail("LHLO x\r\n"), "220 here LMTP\r\n250-here\r\n250-SIZE 4000\r\n250 8BITMIME\r\n");
    }

    /** Delivers a message, whose lines end with CRLF, from a path (with < >) to a user: the answer to it. */
    String send(String from, String to, String message) {
        StringBuilder stuffed = new StringBuilder();
        boolean atStart = true;
        for (int i = 0; i < message.length(); i++) {
            if (atStart && message.charAt(i) == '.') {
                stuffed.append('.');
            }
            stuffed.append(message.charAt(i));
            atStart = message.charAt(i) == '\n' && i > 0 && message.charAt(i - 1) == '\r';
        }
        String all = mail("MAIL FROM:" + from + "\r\nRCPT TO:<" + to + ">\r\nDATA\r\n" + stuffed + ".\r\n");
        String before = "250 2.1.0 ok\r\n250 2.1.5 ok\r\n354 go\r\n";
        due("before the message", all.startsWith(before), true);
        return all.startsWith(before) ? all.substring(before.length()) : all;
    }

    String bytes(int number) {
        StringBuilder all = new StringBuilder();
        int size = sizeOf(number);
        for (int i = 0; i < size; i += 8) {
            appendEight(all, call().bytes(number, i), size - i);
        }
        return all.toString();
    }

    /** The bytes up to the first zero behind which there is none but zeros: messages of the tests have none. */
    private int sizeOf(int number) {
        for (int i = 0; i < 10000; i += 8) {
            long eight = call().bytes(number, i);
            int zeros = eight == 0 ? 8 : Long.numberOfTrailingZeros(eight) / 8;
            if (zeros > 0) {
                return i + 8 - zeros;
            }
        }
        return -1;
    }

    private static void appendEight(StringBuilder all, long eight, int most) {
        for (int j = 0; j < 8 && j < most; j++) {
            all.append((char) (eight >> 8 * (7 - j) & 255));
        }
    }

    /** A name of at most 120 bytes, up to its first zero. */
    String name(int user, int k) {
        StringBuilder all = new StringBuilder();
        for (int i = 0; i < 120; i += 8) {
            long eight = call().name(user, k, i);
            if (eight == -1) {
                return "none";
            }
            appendEight(all, eight, 8);
            if ((eight & 255) == 0) {
                break;
            }
        }
        int end = all.indexOf("\0");
        return end < 0 ? all.toString() : all.substring(0, end);
    }

    /** A user's mailboxes with the number of messages in each, and his first messages' flags where they have some. */
    String boxes(int user) {
        StringBuilder all = new StringBuilder();
        int many = call().count(30 + user);
        for (int box = 0; box < many; box++) {
            all.append(box == 0 ? "" : " ").append(name(user, box)).append(':').append(call().messages(user, box));
            int flags = call().message(user, box, 0, 1);
            if (flags > 0) {
                all.append('/').append(flags);
            }
        }
        return all.toString();
    }
}
