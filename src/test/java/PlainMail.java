import java.util.ArrayList;
import java.util.Arrays;
import java.util.List;
import java.util.regex.Matcher;
import java.util.regex.Pattern;

/** The whole class, written a second time from the document, for holding the first against it. */
final class PlainMail {
    private static final Pattern MAIL =
        Pattern.compile("(?i)MAIL FROM:<([^<>]*)>((?: SIZE=[0-9]{1,9}| BODY=8BITMIME)*)", Pattern.DOTALL);
    private static final Pattern RCPT = Pattern.compile("(?i)RCPT TO:<([^<>]*)>", Pattern.DOTALL);
    private static final Pattern SIZE = Pattern.compile("(?i)SIZE=([0-9]+)");
    private static final List<String> ADDRESSES = Arrays.asList("ANNA@HERE", "BEN@HERE", "CLEO@HERE", "DAN@HERE");

    /** A message of a mailbox, or of the outbox (user -1, where box is the address). */
    private static final class Mail {
        int user;
        String box;
        String text;
        int flags;
    }

    private static final class Note {
        String sender;
        String handle;
        int day;
    }

    private static final class Script {
        String name;
        String source;
    }

    private static final class User {
        final List<Script> scripts = new ArrayList<>();
        final List<Note> notes = new ArrayList<>();
        final List<String> boxes = new ArrayList<>(Arrays.asList("INBOX"));
        Script active;
        StringBuilder came = new StringBuilder();

        Script named(String name) {
            for (Script script : scripts) {
                if (script.name.equals(name)) {
                    return script;
                }
            }
            return null;
        }
    }

    private static final class Session {
        final StringBuilder line = new StringBuilder();
        boolean greeted;
        String sender;
        List<String> recipients = new ArrayList<>();
        StringBuilder data;
    }

    private String tape = "";
    private final StringBuilder[] waiting = new StringBuilder[5];
    private final User[] users = new User[4];
    private final List<Mail> store = new ArrayList<>();
    private Session session;
    private boolean power = true;
    private int day;
    private int commits;
    private int cut;

    PlainMail() {
        for (int i = 0; i < 5; i++) {
            waiting[i] = new StringBuilder();
        }
        for (int i = 0; i < 4; i++) {
            users[i] = new User();
        }
    }

    boolean feed(int... five) {
        if (!power || tape.length() + 20 > 6000) {
            return false;
        }
        StringBuilder all = new StringBuilder(tape);
        for (int four : five) {
            for (int j = 3; j >= 0; j--) {
                all.append((char) (four >> 8 * j & 255));
            }
        }
        tape = all.toString();
        return true;
    }

    private void say(int to, String... lines) {
        for (String line : lines) {
            waiting[to].append(line).append("\r\n");
        }
        waiting[to].setLength(Math.min(10000, waiting[to].length()));
    }

    boolean connect() {
        if (power) {
            session = new Session();
            say(4, "220 here LMTP");
        }
        return power;
    }

    int mail(int n) {
        if (!power || session == null || n < 0 || n > tape.length()) {
            return -1;
        }
        String all = tape;
        tape = "";
        for (int i = 0; i < n; i++) {
            if (session != null) {
                session.line.append(all.charAt(i));
                int size = session.line.length();
                if (size >= 2 && session.line.charAt(size - 1) == 10 && session.line.charAt(size - 2) == 13) {
                    String line = session.line.substring(0, size - 2);
                    session.line.setLength(0);
                    line(line);
                }
            }
            if (!power) {
                return i + 1;
            }
        }
        return n;
    }

    private void line(String line) {
        if (session.data == null) {
            String answer = command(line);
            say(4, answer.split("\\|"));
        } else if (line.equals(".")) {
            deliver(session.data.toString());
        } else {
            session.data.append(line.startsWith(".") ? line.substring(1) : line).append("\r\n");
        }
    }

    private String command(String line) {
        if (line.length() > 500) {
            return "500 5.5.2 too long";
        }
        String word = PlainText.raised(line.split(" ", 2)[0]);
        if (!Arrays.asList("LHLO", "MAIL", "RCPT", "DATA", "RSET", "NOOP", "QUIT").contains(word)) {
            return "500 5.5.2 unknown";
        }
        if (!session.greeted && Arrays.asList("MAIL", "RCPT", "DATA").contains(word)) {
            return "503 5.5.1 order";
        }
        switch (word) {
            case "LHLO": return lhlo(line);
            case "MAIL": return sender(line);
            case "RCPT": return recipient(line);
            default: return line.length() > 4 ? "501 5.5.4 syntax" : bare(word);
        }
    }

    private String lhlo(String line) {
        if (line.length() < 6 || !PlainText.isDomain(line.substring(5))) {
            return "501 5.5.4 syntax";
        }
        session.greeted = true;
        session.sender = null;
        session.recipients.clear();
        return "250-here|250-SIZE 4000|250 8BITMIME";
    }

    private String sender(String line) {
        Matcher form = MAIL.matcher(line);
        if (!form.matches() || !form.group(1).isEmpty() && !PlainText.isAddress(form.group(1))) {
            return "501 5.5.4 syntax";
        }
        if (session.sender != null) {
            return "503 5.5.1 order";
        }
        Matcher size = SIZE.matcher(form.group(2));
        while (size.find()) {
            if (Integer.parseInt(size.group(1)) > 4000) {
                return "552 5.3.4 too big";
            }
        }
        session.sender = form.group(1);
        return "250 2.1.0 ok";
    }

    private String recipient(String line) {
        Matcher form = RCPT.matcher(line);
        if (!form.matches() || !PlainText.isAddress(form.group(1))) {
            return "501 5.5.4 syntax";
        }
        if (session.sender == null) {
            return "503 5.5.1 order";
        }
        if (!ADDRESSES.contains(PlainText.raised(form.group(1)))) {
            return "550 5.1.1 no such";
        }
        if (session.recipients.size() >= 4) {
            return "452 4.5.3 too many";
        }
        session.recipients.add(form.group(1));
        return "250 2.1.5 ok";
    }

    private String bare(String word) {
        switch (word) {
            case "DATA":
                if (session.recipients.isEmpty()) {
                    return "503 5.5.1 order";
                }
                session.data = new StringBuilder();
                return "354 go";
            case "RSET":
                session.sender = null;
                session.recipients.clear();
                return "250 2.0.0 ok";
            case "NOOP":
                return "250 2.0.0 ok";
            default:
                session = null;
                return "221 2.0.0 bye";
        }
    }

    private boolean commit() {
        if (cut == 1) {
            cut = 0;
            power = false;
            session = null;
            for (User user : users) {
                user.came.setLength(0);
            }
            return false;
        }
        cut -= cut > 0 ? 1 : 0;
        commits++;
        return true;
    }

    private void deliver(String text) {
        Session from = session;
        for (String recipient : from.recipients) {
            if (text.length() > 4000) {
                say(4, "552 5.3.4 too big");
            } else if (power) {
                deliver(from.sender, recipient, ADDRESSES.indexOf(PlainText.raised(recipient)), text);
            }
        }
        from.data = null;
        from.sender = null;
        from.recipients.clear();
    }

    private void deliver(String sender, String recipient, int number, String text) {
        User user = users[number];
        PlainRun run = new PlainRun(sender, recipient, text, user.boxes);
        run.run(user.active == null ? new ArrayList<>() : PlainScript.read(user.active.source));
        List<Mail> made = new ArrayList<>();
        for (String box : run.files.keySet()) {
            made.add(mailOf(number, box, text, run.files.get(box)));
        }
        for (String address : run.redirects) {
            made.add(mailOf(-1, address, text, 0));
        }
        boolean absent = run.mayAnswer() && !isNoted(user, sender, run);
        if (absent || run.reject != null && !sender.isEmpty()) {
            made.add(mailOf(-1, sender, run.answer(), 0));
        }
        if (!fits(made)) {
            say(4, "452 4.2.2 full");
            return;
        }
        if (!commit()) {
            return;
        }
        store.addAll(made);
        for (String box : run.files.keySet()) {
            if (!user.boxes.contains(box)) {
                user.boxes.add(box);
            }
        }
        if (absent) {
            Note note = new Note();
            note.sender = sender;
            note.handle = run.handle();
            note.day = day;
            user.notes.add(note);
            if (user.notes.size() > 40) {
                user.notes.remove(0);
            }
        }
        say(4, "250 2.0.0 <" + recipient + ">");
    }

    private boolean isNoted(User user, String sender, PlainRun run) {
        Note latest = null;
        for (Note note : user.notes) {
            if (PlainText.alike(note.sender, sender) && note.handle.equals(run.handle())) {
                latest = note;
            }
        }
        return latest != null && day < latest.day + run.days();
    }

    private static Mail mailOf(int user, String box, String text, int flags) {
        Mail mail = new Mail();
        mail.user = user;
        mail.box = box;
        mail.text = text;
        mail.flags = flags;
        return mail;
    }

    private boolean fits(List<Mail> made) {
        List<Mail> all = new ArrayList<>(store);
        all.addAll(made);
        long out = all.stream().filter(mail -> mail.user < 0).count();
        int bytes = all.stream().mapToInt(mail -> mail.text.length()).sum();
        return all.size() - out <= 300 && out <= 100 && bytes <= 150000;
    }

    int manage(int user, int n) {
        if (user < 0 || user > 3 || !power || n < 0 || n > tape.length()) {
            return -1;
        }
        String all = tape;
        tape = "";
        for (int i = 0; i < n; i++) {
            users[user].came.append(all.charAt(i));
            look(user);
            if (!power) {
                return i + 1;
            }
        }
        return n;
    }

    /** Looks from their beginning at all bytes of a command that have come, whenever one has come. */
    private void look(int user) {
        StringBuilder came = users[user].came;
        List<String> parts = new ArrayList<>();
        int end = PlainCommand.read(came, parts);
        if (end == PlainCommand.BEGUN) {
            return;
        }
        if (end == PlainCommand.WHOLE) {
            users[user].came.setLength(0);
            execute(user, parts);
        } else if (end == PlainCommand.TOO_BIG || came.indexOf("\r\n", end) >= 0) {
            users[user].came.setLength(0);
            say(user, "NO \"syntax\"");
        }
    }

    private void execute(int number, List<String> parts) {
        User user = users[number];
        String word = PlainText.raised(parts.get(0));
        String kinds = "";
        for (String part : parts.subList(1, parts.size())) {
            boolean name = part.substring(1).matches("[ -~]{1,20}");
            kinds += part.charAt(0) == '9' ? "9" : name ? "n" : part.length() == 1 ? "e" : "s";
        }
        List<String> forms = Arrays.asList("PUTSCRIPT n[nes]", "CHECKSCRIPT [nes]", "HAVESPACE n9", "SETACTIVE [ne]", "GETSCRIPT n",
            "LISTSCRIPTS ", "DELETESCRIPT n", "RENAMESCRIPT nn", "LOGOUT ");
        String form = word + " " + kinds;
        if (forms.stream().noneMatch(form::matches)) {
            say(number, "NO \"syntax\"");
            return;
        }
        String first = parts.size() > 1 ? parts.get(1).substring(1) : "";
        String second = parts.size() > 2 ? parts.get(2).substring(1) : "";
        switch (word) {
            case "PUTSCRIPT": putScript(number, first, second); break;
            case "CHECKSCRIPT":
                int fault = PlainScript.faultLine(first);
                say(number, fault == 0 ? "OK" : "NO \"line " + fault + "\"");
                break;
            case "HAVESPACE":
                boolean fifth = user.named(first) == null && user.scripts.size() == 4;
                say(number, fifth || Integer.parseInt(second) > 2000 ? "NO \"space\"" : "OK");
                break;
            case "SETACTIVE":
                if (!first.isEmpty() && user.named(first) == null) {
                    say(number, "NO \"none\"");
                } else if (commit()) {
                    user.active = user.named(first);
                    say(number, "OK");
                }
                break;
            case "GETSCRIPT":
                Script script = user.named(first);
                say(number, script == null ? "NO \"none\"" : "{" + script.source.length() + "}\r\n" + script.source + "\r\nOK");
                break;
            case "LISTSCRIPTS":
                for (Script each : user.scripts) {
                    String name = each.name.replace("\\", "\\\\").replace("\"", "\\\"");
                    say(number, "\"" + name + "\"" + (each == user.active ? " ACTIVE" : ""));
                }
                say(number, "OK");
                break;
            case "DELETESCRIPT": deleteScript(number, first); break;
            case "RENAMESCRIPT": renameScript(number, first, second); break;
            default: say(number, "OK");
        }
    }

    private void putScript(int number, String name, String source) {
        User user = users[number];
        int fault = PlainScript.faultLine(source);
        Script script = user.named(name);
        if (fault > 0) {
            say(number, "NO \"line " + fault + "\"");
        } else if (script == null && user.scripts.size() == 4) {
            say(number, "NO \"space\"");
        } else if (commit()) {
            if (script == null) {
                script = new Script();
                script.name = name;
                user.scripts.add(script);
            }
            script.source = source;
            say(number, "OK");
        }
    }

    private void deleteScript(int number, String name) {
        User user = users[number];
        Script script = user.named(name);
        if (script == null) {
            say(number, "NO \"none\"");
        } else if (script == user.active) {
            say(number, "NO \"active\"");
        } else if (commit()) {
            user.scripts.remove(script);
            say(number, "OK");
        }
    }

    private void renameScript(int number, String name, String next) {
        Script script = users[number].named(name);
        if (script == null) {
            say(number, "NO \"none\"");
        } else if (users[number].named(next) != null) {
            say(number, "NO \"exists\"");
        } else if (commit()) {
            script.name = next;
            say(number, "OK");
        }
    }

    long reply(int from) {
        if (from < 0 || from > 4) {
            return 0;
        }
        int taken = Math.min(7, waiting[from].length());
        long answer = eight((char) taken + waiting[from].substring(0, taken), 0);
        waiting[from].delete(0, taken);
        return answer;
    }

    int tick() {
        if (!power || !commit()) {
            return -1;
        }
        day++;
        return day;
    }

    boolean cut(int k) {
        if (k < 0 || k > 1000) {
            return false;
        }
        cut = k;
        return true;
    }

    int start() {
        if (power) {
            return -1;
        }
        power = true;
        return commits;
    }

    /** The numbers of the messages of a mailbox, none if there is no such. */
    private List<Integer> numbers(int user, int box) {
        if (user < 0 || user > 3 || box < 0 || box >= users[user].boxes.size()) {
            return null;
        }
        List<Integer> numbers = new ArrayList<>();
        for (int i = 0; i < store.size(); i++) {
            if (store.get(i).user == user && store.get(i).box.equals(users[user].boxes.get(box))) {
                numbers.add(i);
            }
        }
        return numbers;
    }

    int messages(int user, int box) {
        List<Integer> numbers = numbers(user, box);
        return numbers == null ? -1 : numbers.size();
    }

    int message(int user, int box, int i, int what) {
        List<Integer> numbers = numbers(user, box);
        if (numbers == null || i < 0 || i >= numbers.size() || what < 0 || what > 2) {
            return -1;
        }
        Mail mail = store.get(numbers.get(i));
        return what == 0 ? mail.text.length() : what == 1 ? mail.flags : numbers.get(i);
    }

    private static long eight(String text, int from) {
        long eight = 0;
        for (long j = 0; j < 8; j++) {
            eight = eight << 8 | (from + j < text.length() ? text.charAt((int) (from + j)) : 0);
        }
        return eight;
    }

    long bytes(int n, int i) {
        return n < 0 || n >= store.size() || i < 0 ? -1 : eight(store.get(n).text, i);
    }

    long name(int u, int k, int i) {
        if (i < 0 || k < 0) {
            return -1;
        }
        if (u >= 0 && u < 4) {
            return k < users[u].boxes.size() ? eight(users[u].boxes.get(k), i) : -1;
        }
        List<String> out = new ArrayList<>();
        store.stream().filter(mail -> mail.user < 0).forEach(mail -> out.add(mail.box));
        return u == 4 && k < out.size() ? eight(out.get(k), i) : -1;
    }

    int count(int what) {
        if (what >= 10 && what <= 33 && what % 10 <= 3) {
            User user = users[what % 10];
            return what < 20 ? user.scripts.size() : what < 30 ? user.notes.size() : user.boxes.size();
        }
        switch (what) {
            case 0: return store.size();
            case 1: return (int) store.stream().filter(mail -> mail.user < 0).count();
            case 2: return store.stream().mapToInt(mail -> mail.text.length()).sum();
            case 3: return day;
            case 4: return commits;
            case 5: return tape.length();
            case 6: return power ? 1 : 0;
            case 7: return session == null ? 0 : 1;
            default: return -1;
        }
    }
}
