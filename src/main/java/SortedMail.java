import java.util.Arrays;

/** Mail for four users, sorted by their scripts; the document of SortedMail tells what each call does. */
public final class SortedMail {
    private static final int USERS = 4;
    private static final int DELIVERY = 4;
    private static final int TAPE_BYTES = 6000;
    private static final int FED_BYTES = 20;
    private static final int BOX_MAILS = 300;
    private static final int OUTBOX_MAILS = 100;
    private static final int STORE_BYTES = 150000;
    private static final int LATEST_CUT = 1000;

    private final byte[] tape = new byte[TAPE_BYTES];
    private final Queue[] answers = new Queue[USERS + 1];
    private final ScriptSession[] sessions = new ScriptSession[USERS];
    private final User[] users = new User[USERS];
    private final Entry[] mails = new Entry[BOX_MAILS + OUTBOX_MAILS];
    private final Parser parser = new Parser();
    private final Delivery delivery;
    private final Reader reader;
    private final Runner runner;
    private int tapeSize;
    private int mailCount;
    private int outboxCount;
    private int mailBytes;
    private int day;
    private int commits;
    private int cutIn;
    private boolean power = true;

    public SortedMail() {
        for (int i = 0; i < USERS; i++) {
            answers[i] = new Queue();
            sessions[i] = new ScriptSession();
            users[i] = new User();
        }
        answers[DELIVERY] = new Queue();
        delivery = new Delivery(answers[DELIVERY]);
        reader = new Reader(delivery, parser.lexer.strings);
        runner = new Runner(parser, reader);
    }

    public boolean feed(int a, int b, int c, int d, int e) {
        if (!power || tapeSize > TAPE_BYTES - FED_BYTES) {
            return false;
        }
        addToTape(a);
        addToTape(b);
        addToTape(c);
        addToTape(d);
        addToTape(e);
        return true;
    }

    public boolean connect() {
        if (!power) {
            return false;
        }
        delivery.open();
        return true;
    }

    public int mail(int n) {
        if (!power || !delivery.isOpen || n < 0 || n > tapeSize) {
            return -1;
        }
        int looked = 0;
        while (looked < n && looked < TAPE_BYTES && power) {
            int came = delivery.take(tape[looked] & 255);
            looked++;
            if (came == Delivery.LINE) {
                delivery.answerLine();
            } else if (came == Delivery.MESSAGE) {
                deliver();
            }
        }
        tapeSize = 0;
        return looked;
    }

    public int manage(int user, int n) {
        if (!power || user < 0 || user >= USERS || n < 0 || n > tapeSize) {
            return -1;
        }
        ScriptSession session = sessions[user];
        int looked = 0;
        while (looked < n && looked < TAPE_BYTES && power) {
            int came = session.take(tape[looked] & 255);
            looked++;
            if (came == ScriptSession.COMMAND) {
                execute(user, session.command());
                session.reset();
            } else if (came == ScriptSession.SYNTAX) {
                answers[user].refusal("syntax");
                session.reset();
            }
        }
        tapeSize = 0;
        return looked;
    }

    public long reply(int session) {
        return session < 0 || session > USERS ? 0 : answers[session].take();
    }

    public int tick() {
        if (!power || !commit()) {
            return -1;
        }
        day++;
        return day;
    }

    public boolean cut(int k) {
        if (k < 0 || k > LATEST_CUT) {
            return false;
        }
        cutIn = k;
        return true;
    }

    public int start() {
        if (power) {
            return -1;
        }
        power = true;
        return commits;
    }

    public int messages(int user, int box) {
        if (!hasBox(user, box)) {
            return -1;
        }
        int found = 0;
        for (int i = 0; i < mailCount; i++) {
            if (isIn(i, user, box)) {
                found++;
            }
        }
        return found;
    }

    public int message(int user, int box, int i, int what) {
        if (!hasBox(user, box) || what < 0 || what > 2) {
            return -1;
        }
        int number = numberOf(user, box, i);
        if (number < 0) {
            return -1;
        }
        Entry mail = mails[number];
        return what == 0 ? mail.text.length : what == 1 ? mail.flags : number;
    }

    public long bytes(int n, int i) {
        if (n < 0 || n >= mailCount || i < 0) {
            return -1;
        }
        byte[] text = mails[n].text;
        return eightBytes(text, i, text.length);
    }

    public long name(int u, int k, int i) {
        if (i < 0) {
            return -1;
        }
        if (u == DELIVERY) {
            int number = numberOf(Entry.OUTBOX, 0, k);
            return number < 0 ? -1 : eightBytes(mails[number].label, i, mails[number].label.length);
        }
        if (!hasBox(u, k)) {
            return -1;
        }
        Texts boxes = users[u].boxes;
        int length = boxes.to[k] - boxes.from[k];
        return i >= length ? 0 : eightBytes(boxes.row, boxes.from[k] + i, boxes.to[k]);
    }

    public int count(int what) {
        switch (what) {
            case 0: return mailCount;
            case 1: return outboxCount;
            case 2: return mailBytes;
            case 3: return day;
            case 4: return commits;
            case 5: return tapeSize;
            case 6: return power ? 1 : 0;
            case 7: return delivery.isOpen ? 1 : 0;
            default: return countOfUser(what / 10, what % 10);
        }
    }

    private int countOfUser(int group, int user) {
        if (user < 0 || user >= USERS) {
            return -1;
        }
        switch (group) {
            case 1: return users[user].scriptCount;
            case 2: return users[user].noteCount;
            case 3: return users[user].boxes.size;
            default: return -1;
        }
    }

    private void addToTape(int four) {
        for (int shift = 24; shift >= 0 && tapeSize < TAPE_BYTES; shift -= 8) {
            tape[tapeSize] = (byte) (four >> shift);
            tapeSize++;
        }
    }

    private static long eightBytes(byte[] text, int from, int to) {
        long eight = 0;
        for (int j = 0; j < 8; j++) {
            int b = from < to - j ? text[from + j] & 255 : 0;
            eight = eight << 8 | b;
        }
        return eight;
    }

    private boolean hasBox(int user, int box) {
        return user >= 0 && user < USERS && box >= 0 && box < users[user].boxes.size;
    }

    private boolean isIn(int number, int user, int box) {
        return mails[number].user == user && mails[number].box == box;
    }

    private int numberOf(int user, int box, int i) {
        int left = i;
        for (int number = 0; number < mailCount && left >= 0; number++) {
            if (isIn(number, user, box)) {
                if (left == 0) {
                    return number;
                }
                left--;
            }
        }
        return -1;
    }

    /** Counts a commit that is about to be done; false if the power goes in its place. */
    private boolean commit() {
        if (cutIn == 1) {
            cutIn = 0;
            losePower();
            return false;
        }
        cutIn = Math.max(0, cutIn - 1);
        commits++;
        return true;
    }

    private void losePower() {
        power = false;
        delivery.close();
        for (int i = 0; i < USERS; i++) {
            sessions[i].reset();
        }
    }

    private void deliver() {
        reader.readHeader();
        int recipients = delivery.recipients.size;
        for (int r = 0; r < recipients && power; r++) {
            if (delivery.isTooBig()) {
                answers[DELIVERY].line("552 5.3.4 too big");
                continue;
            }
            int user = delivery.userOf(r);
            Entry script = users[user].active;
            runner.begin(users[user], r);
            if (script != null) {
                parser.parse(script.text, 0, script.text.length);
                runner.run();
            }
            runner.finish(day);
            if (!fits()) {
                answers[DELIVERY].line("452 4.2.2 full");
            } else if (commit()) {
                storePlan(user);
                delivery.answerDelivered(r);
            }
        }
        delivery.forget();
    }

    private boolean fits() {
        int boxMails = mailCount - outboxCount + runner.fileCount;
        int sent = runner.redirectCount + (runner.hasAnswer ? 1 : 0);
        int copies = runner.fileCount + runner.redirectCount;
        int more = copies * delivery.textSize + (runner.hasAnswer ? runner.answer.used : 0);
        return boxMails <= BOX_MAILS && outboxCount + sent <= OUTBOX_MAILS && mailBytes + more <= STORE_BYTES;
    }

    private void storePlan(int user) {
        User owner = users[user];
        Texts strings = parser.lexer.strings;
        for (int i = 0; i < runner.newBoxCount; i++) {
            owner.boxes.addFrom(strings, runner.newBoxes[i]);
        }
        byte[] text = Arrays.copyOf(delivery.text, delivery.textSize);
        for (int i = 0; i < runner.fileCount; i++) {
            Entry mail = new Entry(Entry.NO_LABEL, text);
            mail.user = user;
            mail.box = runner.files[i];
            mail.flags = runner.fileFlags[i];
            storeMail(mail);
        }
        for (int i = 0; i < runner.redirectCount; i++) {
            storeMail(new Entry(strings.copyOf(runner.redirects[i]), text));
        }
        if (runner.hasAnswer) {
            byte[] sender = delivery.sender.copyOf(0);
            storeMail(new Entry(sender, Arrays.copyOf(runner.answer.row, runner.answer.used)));
            if (runner.vacation != null) {
                owner.addNote(sender, strings.copyOf(runner.vacation.handle()), day);
            }
        }
    }

    private void storeMail(Entry mail) {
        if (mailCount < mails.length) {
            mails[mailCount] = mail;
            mailCount++;
            mailBytes += mail.text.length;
            if (mail.user == Entry.OUTBOX) {
                outboxCount++;
            }
        }
    }

    private void execute(int user, int command) {
        switch (command) {
            case ScriptSession.PUTSCRIPT: case ScriptSession.CHECKSCRIPT:
                Texts parts = sessions[user].parts;
                int last = parts.size - 1;
                takeScript(user, command, parser.parse(parts.row, parts.from[last], parts.to[last]));
                break;
            case ScriptSession.HAVESPACE: haveSpace(user); break;
            case ScriptSession.SETACTIVE: setActive(user); break;
            case ScriptSession.GETSCRIPT: getScript(user); break;
            case ScriptSession.LISTSCRIPTS: listScripts(user); break;
            case ScriptSession.DELETESCRIPT: deleteScript(user); break;
            case ScriptSession.RENAMESCRIPT: renameScript(user); break;
            case ScriptSession.LOGOUT: answers[user].line("OK"); break;
            default: answers[user].refusal("syntax");
        }
    }

    private void takeScript(int user, int command, int fault) {
        Texts parts = sessions[user].parts;
        Entry old = users[user].scriptNamed(parts, 0);
        if (fault > 0) {
            answers[user].faultLine(fault);
        } else if (command == ScriptSession.CHECKSCRIPT) {
            answers[user].line("OK");
        } else if (old == null && users[user].isFull()) {
            answers[user].refusal("space");
        } else if (commit()) {
            users[user].putScript(old, parts);
            answers[user].line("OK");
        }
    }

    private void haveSpace(int user) {
        ScriptSession session = sessions[user];
        boolean isNew = users[user].scriptNamed(session.parts, 0) == null;
        if (isNew && users[user].isFull() || session.number > ScriptSession.LITERAL_BYTES) {
            answers[user].refusal("space");
        } else {
            answers[user].line("OK");
        }
    }

    private void setActive(int user) {
        Texts parts = sessions[user].parts;
        Entry script = users[user].scriptNamed(parts, 0);
        if (script == null && parts.lengthOf(0) > 0) {
            answers[user].refusal("none");
        } else if (commit()) {
            users[user].active = script;
            answers[user].line("OK");
        }
    }

    private void getScript(int user) {
        Entry script = users[user].scriptNamed(sessions[user].parts, 0);
        if (script == null) {
            answers[user].refusal("none");
        } else {
            answers[user].script(script.text);
            answers[user].line("OK");
        }
    }

    private void listScripts(int user) {
        User owner = users[user];
        for (int i = 0; i < owner.scriptCount; i++) {
            Entry script = owner.scripts[i];
            answers[user].quoted(script.label);
            answers[user].line(script == owner.active ? " ACTIVE" : "");
        }
        answers[user].line("OK");
    }

    private void deleteScript(int user) {
        User owner = users[user];
        Entry script = owner.scriptNamed(sessions[user].parts, 0);
        if (script == null) {
            answers[user].refusal("none");
        } else if (script == owner.active) {
            answers[user].refusal("active");
        } else if (commit()) {
            owner.removeScript(script);
            answers[user].line("OK");
        }
    }

    private void renameScript(int user) {
        Texts parts = sessions[user].parts;
        Entry script = users[user].scriptNamed(parts, 0);
        if (script == null) {
            answers[user].refusal("none");
        } else if (users[user].scriptNamed(parts, 1) != null) {
            answers[user].refusal("exists");
        } else if (commit()) {
            script.label = parts.copyOf(1);
            answers[user].line("OK");
        }
    }

    /** What the store keeps: a message (for an address), a script (a name, a source) or a note (a sender, a handle). */
    private static final class Entry {
        static final int OUTBOX = -1;
        static final byte[] NO_LABEL = {};
        byte[] label;
        byte[] text;
        int user = OUTBOX;
        int box;
        int flags;
        int day;

        Entry(byte[] label, byte[] text) {
            this.label = label;
            this.text = text;
        }
    }

    /** What of a user outlives cuts of power, but for his messages. */
    private static final class User {
        private static final int MOST_SCRIPTS = 4;
        private static final int MOST_NOTES = 40;
        static final int MOST_BOXES = 6;
        static final int BOX_NAME_BYTES = 20;

        final Entry[] scripts = new Entry[MOST_SCRIPTS];
        final Entry[] notes = new Entry[MOST_NOTES];
        final Texts boxes = new Texts(MOST_BOXES, MOST_BOXES * BOX_NAME_BYTES);
        int scriptCount;
        int noteCount;
        Entry active;

        User() {
            boxes.putText("INBOX");
            boxes.close();
        }

        Entry scriptNamed(Texts parts, int part) {
            for (int i = 0; i < scriptCount; i++) {
                if (parts.isSame(part, scripts[i].label, false)) {
                    return scripts[i];
                }
            }
            return null;
        }

        boolean isFull() {
            return scriptCount == MOST_SCRIPTS;
        }

        void putScript(Entry old, Texts parts) {
            if (old != null) {
                old.text = parts.copyOf(1);
            } else if (scriptCount < MOST_SCRIPTS) {
                scripts[scriptCount] = new Entry(parts.copyOf(0), parts.copyOf(1));
                scriptCount++;
            }
        }

        void removeScript(Entry script) {
            int kept = 0;
            for (int i = 0; i < scriptCount; i++) {
                if (scripts[i] != script) {
                    scripts[kept] = scripts[i];
                    kept++;
                }
            }
            scriptCount = kept;
        }

        void addNote(byte[] sender, byte[] handle, int today) {
            if (noteCount == MOST_NOTES) {
                for (int i = 1; i < MOST_NOTES; i++) {
                    notes[i - 1] = notes[i];
                }
                noteCount--;
            }
            Entry note = new Entry(sender, handle);
            note.day = today;
            notes[noteCount] = note;
            noteCount++;
        }

        Entry latestNote(Texts senders, Texts handles, int handle) {
            for (int i = noteCount - 1; i >= 0; i--) {
                if (senders.isSame(0, notes[i].label, true) && handles.isSame(handle, notes[i].text, false)) {
                    return notes[i];
                }
            }
            return null;
        }
    }

    /** A list of texts in one row of bytes, made once and used again, and what is asked of bytes everywhere. */
    private static final class Texts {
        private static final int LOCAL_BYTES = 40;
        private static final int DOMAIN_BYTES = 60;
        private static final String LOCAL_SIGNS = "!#$%&'*+-/=?^_`{|}~";
        private static final String DOMAIN_SIGNS = "-";
        static final int ADDRESS_BYTES = LOCAL_BYTES + 1 + DOMAIN_BYTES;

        final byte[] row;
        final int[] from;
        final int[] to;
        int size;
        int begun;
        int used;

        Texts(int most, int bytesInAll) {
            row = new byte[bytesInAll];
            from = new int[most];
            to = new int[most];
        }

        void clear() {
            size = 0;
            begun = 0;
            used = 0;
        }

        void put(int b) {
            if (used < row.length) {
                row[used] = (byte) b;
                used++;
            }
        }

        void putText(String text) {
            for (int i = 0; i < text.length(); i++) {
                put(text.charAt(i));
            }
        }

        void putRange(byte[] source, int start, int end) {
            int length = Math.min(Math.min(end, source.length) - start, row.length - used);
            if (start >= 0 && length > 0) {
                System.arraycopy(source, start, row, used, length);
                used += length;
            }
        }

        void putFrom(Texts other, int i) {
            if (i >= 0 && i < other.size) {
                putRange(other.row, other.from[i], other.to[i]);
            }
        }

        void putNumber(int number) {
            for (int unit = 1000000000; unit > 0; unit /= 10) {
                if (number >= unit || unit == 1) {
                    put('0' + number / unit % 10);
                }
            }
        }

        void close() {
            if (size < from.length) {
                from[size] = begun;
                to[size] = used;
                size++;
            }
            begun = used;
        }

        void drop() {
            used = begun;
        }

        void closeTrimmed() {
            close();
            int last = size - 1;
            while (from[last] < to[last] && isBlank(row[from[last]])) {
                from[last]++;
            }
            while (from[last] < to[last] && isBlank(row[to[last] - 1])) {
                to[last]--;
            }
        }

        void addFrom(Texts other, int i) {
            if (i >= 0 && i < other.size) {
                putRange(other.row, other.from[i], other.to[i]);
            }
            close();
        }

        boolean has(int i) {
            return i >= 0 && i < size;
        }

        int lengthOf(int i) {
            return i >= 0 && i < size ? to[i] - from[i] : 0;
        }

        byte[] copyOf(int i) {
            return has(i) ? Arrays.copyOfRange(row, from[i], to[i]) : new byte[0];
        }

        int placeIn(String words, int i) {
            return has(i) ? place(words, row, from[i], to[i]) : -1;
        }

        boolean isSame(int i, byte[] other, boolean caseless) {
            return lengthOf(i) == other.length && (other.length == 0 || isSameAt(from[i], other, 0, other.length, caseless));
        }

        boolean isSameText(int i, Texts other, int k, boolean caseless) {
            int length = lengthOf(i);
            return has(i) && other.has(k) && length == other.lengthOf(k)
                && isSameAt(from[i], other.row, other.from[k], length, caseless);
        }

        private boolean isSameAt(int mine, byte[] other, int his, int length, boolean caseless) {
            for (int j = 0; j < length; j++) {
                int b = row[mine + j];
                int small = b | 32;
                boolean isOtherCase = small >= 'a' && small <= 'z' && (b ^ other[his + j]) == 32;
                if (b != other[his + j] && !(caseless && isOtherCase)) {
                    return false;
                }
            }
            return true;
        }

        /** Makes capitals of the letters in some of the texts, for comparing without case. */
        void raise(int first, int amount) {
            for (int i = first; i < first + amount && i < size; i++) {
                for (int at = from[i]; at < to[i]; at++) {
                    row[at] = (byte) upper(row[at]);
                }
            }
        }

        static int upper(int b) {
            return b >= 'a' && b <= 'z' ? b - 32 : b;
        }

        static boolean isBlank(int b) {
            return b == ' ' || b == 9;
        }

        static boolean isDigit(int b) {
            return b >= '0' && b <= '9';
        }

        static boolean isLetter(int b) {
            return b >= 'A' && b <= 'Z' || b >= 'a' && b <= 'z';
        }

        static int find(byte[] bytes, int start, int end, int b) {
            for (int i = start; i < end; i++) {
                if (bytes[i] == b) {
                    return i;
                }
            }
            return -1;
        }

        /** The place of a word, without case, among words with one blank between them; -1 if it is none. */
        static int place(String words, byte[] bytes, int start, int end) {
            int place = 0;
            int at = start;
            boolean same = true;
            for (int i = 0; i <= words.length(); i++) {
                if (i == words.length() || words.charAt(i) == ' ') {
                    if (same && at == end) {
                        return place;
                    }
                    place++;
                    at = start;
                    same = true;
                } else {
                    same = same && at < end && upper(bytes[at]) == upper(words.charAt(i));
                    at++;
                }
            }
            return -1;
        }

        static boolean isAddress(byte[] bytes, int start, int end) {
            int at = find(bytes, start, end, '@');
            return at >= 0 && isDotted(bytes, start, at, LOCAL_BYTES, LOCAL_SIGNS)
                && isDotted(bytes, at + 1, end, DOMAIN_BYTES, DOMAIN_SIGNS);
        }

        static boolean isDomain(byte[] bytes, int start, int end) {
            return isDotted(bytes, start, end, DOMAIN_BYTES, DOMAIN_SIGNS);
        }

        private static boolean isDotted(byte[] bytes, int start, int end, int most, String signs) {
            if (start >= end || end - start > most) {
                return false;
            }
            int last = '.';
            for (int i = start; i < end; i++) {
                int b = bytes[i] & 255;
                boolean plain = b >= 'A' && b <= 'Z' || b >= 'a' && b <= 'z' || b >= '0' && b <= '9';
                if (!plain && (b == '.' ? last == '.' : signs.indexOf((char) b) < 0)) {
                    return false;
                }
                last = b;
            }
            return last != '.';
        }
    }

    /** Answers of a session that wait to be taken. */
    private static final class Queue {
        private static final int MOST = 10000;
        private static final int TAKEN = 7;

        private final byte[] row = new byte[MOST];
        private int first;
        private int size;

        void put(int b) {
            if (size < MOST) {
                row[(first + size) % MOST] = (byte) b;
                size++;
            }
        }

        void text(String text) {
            for (int i = 0; i < text.length(); i++) {
                put(text.charAt(i));
            }
        }

        void line(String text) {
            text(text);
            put(13);
            put(10);
        }

        void refusal(String why) {
            text("NO \"");
            text(why);
            line("\"");
        }

        void faultLine(int fault) {
            text("NO \"line ");
            digits(fault);
            line("\"");
        }

        void script(byte[] source) {
            put('{');
            digits(source.length);
            line("}");
            range(source, 0, source.length);
            line("");
        }

        void quoted(byte[] label) {
            put('"');
            for (int i = 0; i < label.length; i++) {
                if (label[i] == '"' || label[i] == '\\') {
                    put('\\');
                }
                put(label[i]);
            }
            put('"');
        }

        void range(byte[] source, int start, int end) {
            for (int i = start; i < end; i++) {
                put(source[i]);
            }
        }

        private void digits(int number) {
            for (int unit = 10000; unit > 0; unit /= 10) {
                if (number >= unit || unit == 1) {
                    put('0' + number / unit % 10);
                }
            }
        }

        long take() {
            int taken = Math.min(TAKEN, size);
            long all = taken;
            for (int j = 0; j < TAKEN; j++) {
                int b = j < taken ? row[(first + j) % MOST] & 255 : 0;
                all = all << 8 | b;
            }
            first = (first + taken) % MOST;
            size -= taken;
            return all;
        }
    }

    /** The session of delivery: its lines, its sender and recipients, and the message that comes. */
    private static final class Delivery {
        static final int NOTHING = 0;
        static final int LINE = 1;
        static final int MESSAGE = 2;

        private static final int LONGEST_LINE = 500;
        private static final int LARGEST = 4000;
        private static final int MOST_RECIPIENTS = 4;
        private static final int MOST_DIGITS = 9;
        private static final String ADDRESSES = "anna@here ben@here cleo@here dan@here";
        private static final String ORDER = "503 5.5.1 order";
        private static final String SYNTAX = "501 5.5.4 syntax";
        private static final String OK = "250 2.0.0 ok";

        private static final String WORDS = "LHLO MAIL RCPT DATA RSET NOOP QUIT";
        private static final int LHLO = 0;
        private static final int MAIL = 1;
        private static final int RCPT = 2;
        private static final int DATA = 3;
        private static final int RSET = 4;
        private static final int NOOP = 5;

        private static final int IN_COMMANDS = 0;
        private static final int LINE_START = 1;
        private static final int FIRST_DOT = 2;
        private static final int DOT_AND_CR = 3;
        private static final int IN_LINE = 4;

        final Texts sender = new Texts(1, Texts.ADDRESS_BYTES);
        final Texts recipients = new Texts(MOST_RECIPIENTS, MOST_RECIPIENTS * Texts.ADDRESS_BYTES);
        final byte[] text = new byte[LARGEST];
        int textSize;
        boolean isOpen;
        private final Queue answers;
        private final byte[] line = new byte[LONGEST_LINE + 1];
        private int lineSize;
        private int state;
        private boolean afterCr;
        private boolean greeted;
        private boolean bigAsked;

        Delivery(Queue answers) {
            this.answers = answers;
        }

        void open() {
            close();
            isOpen = true;
            answers.line("220 here LMTP");
        }

        void close() {
            isOpen = false;
            greeted = false;
            afterCr = false;
            lineSize = 0;
            state = IN_COMMANDS;
            sender.clear();
            recipients.clear();
        }

        void forget() {
            sender.clear();
            recipients.clear();
        }

        boolean isTooBig() {
            return textSize > LARGEST;
        }

        int userOf(int recipient) {
            return Math.max(0, recipients.placeIn(ADDRESSES, recipient));
        }

        void answerDelivered(int recipient) {
            answers.text("250 2.0.0 <");
            answers.range(recipients.row, recipients.from[recipient], recipients.to[recipient]);
            answers.line(">");
        }

        int take(int b) {
            if (!isOpen) {
                return NOTHING;
            }
            return state == IN_COMMANDS ? takeInCommands(b) : takeInMessage(b);
        }

        private int takeInCommands(int b) {
            if (b == 10 && afterCr) {
                afterCr = false;
                return LINE;
            }
            // One byte more than the longest line is the 13 of its end, any further one is only counted.
            if (lineSize < line.length) {
                line[lineSize] = (byte) b;
            }
            lineSize = Math.min(lineSize + 1, line.length + 1);
            afterCr = b == 13;
            return NOTHING;
        }

        private int takeInMessage(int b) {
            switch (state) {
                case LINE_START:
                    if (b == '.') {
                        state = FIRST_DOT;
                        return NOTHING;
                    }
                    break;
                case FIRST_DOT:
                    if (b == 13) {
                        state = DOT_AND_CR;
                        return NOTHING;
                    }
                    break;
                case DOT_AND_CR:
                    if (b == 10) {
                        state = IN_COMMANDS;
                        afterCr = false;
                        return MESSAGE;
                    }
                    addToText(13);
                    break;
                default:
                    break;
            }
            addToText(b);
            state = b == 10 && afterCr ? LINE_START : IN_LINE;
            afterCr = b == 13;
            return NOTHING;
        }

        private void addToText(int b) {
            if (textSize < LARGEST) {
                text[textSize] = (byte) b;
            }
            textSize = Math.min(textSize + 1, LARGEST + 1);
        }

        void answerLine() {
            int size = lineSize - 1;
            lineSize = 0;
            if (size > LONGEST_LINE) {
                answers.line("500 5.5.2 too long");
                return;
            }
            int blank = Texts.find(line, 0, size, ' ');
            int wordEnd = blank < 0 ? size : blank;
            int word = Texts.place(WORDS, line, 0, wordEnd);
            if (word < 0) {
                answers.line("500 5.5.2 unknown");
            } else if (!greeted && (word == MAIL || word == RCPT || word == DATA)) {
                answers.line(ORDER);
            } else if (word == LHLO) {
                answerLhlo(size);
            } else if (word == MAIL) {
                answerMail(size);
            } else if (word == RCPT) {
                answerRcpt(size);
            } else if (size > wordEnd) {
                answers.line(SYNTAX);
            } else {
                answerBareWord(word);
            }
        }

        private void answerLhlo(int size) {
            if (!Texts.isDomain(line, 5, size)) {
                answers.line(SYNTAX);
                return;
            }
            greeted = true;
            forget();
            answers.line("250-here");
            answers.line("250-SIZE 4000");
            answers.line("250 8BITMIME");
        }

        private void answerMail(int size) {
            int start = pathStart("FROM:", size);
            int end = pathEnd(start, size, true);
            if (end < 0 || !areOptions(end, size)) {
                answers.line(SYNTAX);
            } else if (sender.size > 0) {
                answers.line(ORDER);
            } else if (bigAsked) {
                answers.line("552 5.3.4 too big");
            } else {
                sender.putRange(line, start + 1, end - 1);
                sender.close();
                answers.line("250 2.1.0 ok");
            }
        }

        private void answerRcpt(int size) {
            int start = pathStart("TO:", size);
            int end = pathEnd(start, size, false);
            if (end != size) {
                answers.line(SYNTAX);
            } else if (sender.size == 0) {
                answers.line(ORDER);
            } else if (Texts.place(ADDRESSES, line, start + 1, end - 1) < 0) {
                answers.line("550 5.1.1 no such");
            } else if (recipients.size == MOST_RECIPIENTS) {
                answers.line("452 4.5.3 too many");
            } else {
                recipients.putRange(line, start + 1, end - 1);
                recipients.close();
                answers.line("250 2.1.5 ok");
            }
        }

        private void answerBareWord(int word) {
            if (word == DATA) {
                answerData();
            } else if (word == RSET) {
                forget();
                answers.line(OK);
            } else if (word == NOOP) {
                answers.line(OK);
            } else {
                close();
                answers.line("221 2.0.0 bye");
            }
        }

        private void answerData() {
            if (recipients.size == 0) {
                answers.line(ORDER);
                return;
            }
            state = LINE_START;
            textSize = 0;
            answers.line("354 go");
        }

        /** Where a path must begin behind the command's word, a blank and FROM: or TO:; -1 without these. */
        private int pathStart(String before, int size) {
            int start = 5 + before.length();
            return start <= size && Texts.place(before, line, 5, start) == 0 ? start : -1;
        }

        /** Where the path that begins there ends; -1 if there is none. */
        private int pathEnd(int start, int size, boolean mayBeEmpty) {
            int close = start < 0 ? -1 : Texts.find(line, start, size, '>');
            if (close <= start || line[start] != '<') {
                return -1;
            }
            boolean fine = mayBeEmpty && close == start + 1 || Texts.isAddress(line, start + 1, close);
            return fine ? close + 1 : -1;
        }

        /** Whether only options of MAIL stand from here on; bigAsked then tells if a SIZE is above the largest. */
        private boolean areOptions(int start, int size) {
            bigAsked = false;
            int at = start;
            while (at < size) {
                int blank = Texts.find(line, at + 1, size, ' ');
                int end = blank < 0 ? size : blank;
                boolean isBody = Texts.place("BODY=8BITMIME", line, at + 1, end) == 0;
                if (line[at] != ' ' || !isBody && !isSize(at + 1, end)) {
                    return false;
                }
                at = end;
            }
            return true;
        }

        private boolean isSize(int start, int end) {
            int digits = start + 5;
            if (digits >= end || end - digits > MOST_DIGITS || Texts.place("SIZE=", line, start, digits) != 0) {
                return false;
            }
            int number = 0;
            for (int i = digits; i < end; i++) {
                if (!Texts.isDigit(line[i])) {
                    return false;
                }
                number = number * 10 + line[i] - '0';
            }
            bigAsked = bigAsked || number > LARGEST;
            return true;
        }
    }

    /** A user's session for scripts: it puts a command together, byte by byte. */
    private static final class ScriptSession {
        static final int NOTHING = 0;
        static final int COMMAND = 1;
        static final int SYNTAX = 2;
        static final int LITERAL_BYTES = 2000;

        static final int PUTSCRIPT = 0;
        static final int CHECKSCRIPT = 1;
        static final int HAVESPACE = 2;
        static final int SETACTIVE = 3;
        static final int GETSCRIPT = 4;
        static final int LISTSCRIPTS = 5;
        static final int DELETESCRIPT = 6;
        static final int RENAMESCRIPT = 7;
        static final int LOGOUT = 8;
        private static final String WORDS =
            "PUTSCRIPT CHECKSCRIPT HAVESPACE SETACTIVE GETSCRIPT LISTSCRIPTS DELETESCRIPT RENAMESCRIPT LOGOUT";
        private static final int WORD_BYTES = 13;
        private static final int MOST_PARTS = 3;
        private static final int MOST_DIGITS = 9;
        private static final int QUOTED_BYTES = 200;
        private static final int NAME_BYTES = 20;

        private static final int NO_PART = 0;
        private static final int NAME = 1;
        private static final int STRING = 2;
        private static final int NUMBER = 3;
        private static final int NAME_OR_EMPTY = 4;
        private static final int[] FIRST_PARTS =
            {NAME, STRING, NAME, NAME_OR_EMPTY, NAME, NO_PART, NAME, NAME, NO_PART};
        private static final int[] SECOND_PARTS =
            {STRING, NO_PART, NUMBER, NO_PART, NO_PART, NO_PART, NO_PART, NAME, NO_PART};

        private static final int IN_WORD = 0;
        private static final int PART_START = 1;
        private static final int QUOTED = 2;
        private static final int ESCAPED = 3;
        private static final int IN_NUMBER = 4;
        private static final int LITERAL_SIZE = 5;
        private static final int LITERAL_PLUS = 6;
        private static final int LITERAL_BRACE = 7;
        private static final int LITERAL_CR = 8;
        private static final int IN_LITERAL = 9;
        private static final int PART_END = 10;
        private static final int AFTER_CR = 11;
        private static final int PASSING_OVER = 12;

        final Texts parts = new Texts(MOST_PARTS, MOST_PARTS * LITERAL_BYTES);
        int number;
        private final int[] kinds = new int[MOST_PARTS];
        private final byte[] word = new byte[WORD_BYTES];
        private int wordSize;
        private int state;
        private int digits;
        private boolean passedCr;

        void reset() {
            parts.clear();
            wordSize = 0;
            state = IN_WORD;
        }

        int take(int b) {
            switch (state) {
                case IN_WORD: return inWord(b);
                case PART_START: return partStart(b);
                case QUOTED: case ESCAPED: return inQuotes(b);
                case IN_NUMBER: return inNumber(b);
                case LITERAL_SIZE: case LITERAL_PLUS: case LITERAL_BRACE: case LITERAL_CR: return aheadOfLiteral(b);
                case IN_LITERAL: return inLiteral(b);
                case PART_END: return partEnd(b);
                case AFTER_CR: return b == 10 ? COMMAND : passOver(b);
                default: return passingOver(b);
            }
        }

        private int go(int next) {
            state = next;
            return NOTHING;
        }

        private int passOver(int b) {
            passedCr = b == 13;
            return go(PASSING_OVER);
        }

        private int passingOver(int b) {
            if (b == 10 && passedCr) {
                return SYNTAX;
            }
            passedCr = b == 13;
            return NOTHING;
        }

        private int inWord(int b) {
            if (!Texts.isLetter(b)) {
                return wordSize == 0 ? passOver(b) : partEnd(b);
            }
            if (wordSize < WORD_BYTES) {
                word[wordSize] = (byte) b;
                wordSize++;
            }
            return NOTHING;
        }

        private int partEnd(int b) {
            if (b == 13) {
                return go(AFTER_CR);
            }
            return b == ' ' && parts.size < MOST_PARTS ? go(PART_START) : passOver(b);
        }

        private int partStart(int b) {
            number = 0;
            digits = 0;
            if (b == '"') {
                return go(QUOTED);
            }
            if (b == '{') {
                return go(LITERAL_SIZE);
            }
            return Texts.isDigit(b) ? inNumber(b) : passOver(b);
        }

        private int inQuotes(int b) {
            if (b == 13 || b == 10) {
                return passOver(b);
            }
            if (state == QUOTED && b == '"') {
                return closePart(STRING);
            }
            if (state == QUOTED && b == '\\') {
                return go(ESCAPED);
            }
            if (parts.used - parts.begun == QUOTED_BYTES) {
                return passOver(b);
            }
            parts.put(b);
            return go(QUOTED);
        }

        private int inNumber(int b) {
            if (!Texts.isDigit(b)) {
                closePart(NUMBER);
                return partEnd(b);
            }
            return addDigit(b) ? go(IN_NUMBER) : passOver(b);
        }

        private boolean addDigit(int b) {
            if (digits == MOST_DIGITS) {
                return false;
            }
            number = number * 10 + b - '0';
            digits++;
            return true;
        }

        private int aheadOfLiteral(int b) {
            if (state == LITERAL_SIZE && Texts.isDigit(b)) {
                return addDigit(b) ? NOTHING : passOver(b);
            }
            if (state == LITERAL_SIZE && b == '+' && digits > 0) {
                return go(LITERAL_PLUS);
            }
            if (state == LITERAL_PLUS && b == '}') {
                return go(LITERAL_BRACE);
            }
            if (state == LITERAL_BRACE && b == 13) {
                return go(LITERAL_CR);
            }
            if (state != LITERAL_CR || b != 10) {
                return passOver(b);
            }
            if (number > LITERAL_BYTES) {
                return SYNTAX;
            }
            return number == 0 ? closePart(STRING) : go(IN_LITERAL);
        }

        private int inLiteral(int b) {
            parts.put(b);
            return parts.used - parts.begun >= number ? closePart(STRING) : NOTHING;
        }

        private int closePart(int kind) {
            if (parts.size < MOST_PARTS) {
                kinds[parts.size] = kind;
            }
            parts.close();
            return go(PART_END);
        }

        /** The command that has come, or -1 if its word or its parts are none. */
        int command() {
            int command = Texts.place(WORDS, word, 0, wordSize);
            if (command < 0 || command >= FIRST_PARTS.length) {
                return -1;
            }
            boolean fine = isPart(0, FIRST_PARTS[command]) && isPart(1, SECOND_PARTS[command]) && parts.size < MOST_PARTS;
            return fine ? command : -1;
        }

        private boolean isPart(int i, int wanted) {
            if (i >= parts.size || wanted == NO_PART) {
                return i >= parts.size && wanted == NO_PART;
            }
            if (wanted == NUMBER || kinds[i] == NUMBER) {
                return wanted == kinds[i];
            }
            boolean mayBeAny = wanted == STRING || wanted == NAME_OR_EMPTY && parts.lengthOf(i) == 0;
            return mayBeAny || isName(i);
        }

        private boolean isName(int i) {
            for (int at = parts.from[i]; at < parts.to[i]; at++) {
                if (parts.row[at] < 32 || parts.row[at] > 126) {
                    return false;
                }
            }
            return parts.lengthOf(i) > 0 && parts.lengthOf(i) <= NAME_BYTES;
        }
    }

    /** The tokens of a script, one at a time; the strings, as they are meant, stay in a list. */
    private static final class Lexer {
        static final int WORD = 0;
        static final int TAG = 1;
        static final int NUMBER = 2;
        static final int STRING = 3;
        static final int SIGN = 4;
        static final int END = 5;
        static final int BAD = 6;

        static final int MOST_STRINGS = 300;
        private static final int SOURCE_BYTES = 2000;
        private static final int QUOTED_BYTES = 200;
        private static final int TEXT_BYTES = 1000;
        private static final long LARGEST = 2147483647L;
        private static final String SIGNS = ";,()[]{}";

        // One place more than a script may have, for the string that is one too many.
        final Texts strings = new Texts(MOST_STRINGS + 1, SOURCE_BYTES);
        byte[] source = new byte[0];
        int kind;
        int number;
        private int first;
        private int end;
        private int begin;
        private int wordBegin;
        private int at;

        void open(byte[] newSource, int from, int to) {
            source = newSource;
            first = from;
            at = from;
            end = to;
            strings.clear();
        }

        int placeIn(String words) {
            return Texts.place(words, source, wordBegin, at);
        }

        boolean isSign(int sign) {
            return kind == SIGN && source[begin] == sign;
        }

        int line() {
            int line = 1;
            for (int i = first; i < begin; i++) {
                if (source[i] == 10) {
                    line++;
                }
            }
            return line;
        }

        void next() {
            if (!skipBetween()) {
                kind = BAD;
                return;
            }
            begin = at;
            if (at >= end) {
                kind = END;
                return;
            }
            int b = source[at];
            if (isWordStart(at)) {
                readWord(begin, WORD);
                int lines = linesOfText();
                if (lines >= 0) {
                    readText(lines);
                }
            } else if (b == ':' && isWordStart(at + 1)) {
                readWord(at + 1, TAG);
            } else if (Texts.isDigit(b)) {
                readNumber();
            } else if (b == '"') {
                readQuoted();
            } else {
                kind = b > 0 && SIGNS.indexOf((char) b) >= 0 ? SIGN : BAD;
                at++;
            }
        }

        /** False, with the token's begin at it, if a comment has no end. */
        private boolean skipBetween() {
            while (at < end) {
                int b = source[at];
                if (b == 9 || b == 10 || b == 13 || b == 32) {
                    at++;
                } else if (b == '#') {
                    int close = Texts.find(source, at, end, 10);
                    at = close < 0 ? end : close;
                } else if (b == '/' && byteAt(at + 1) == '*') {
                    begin = at;
                    at = commentEnd(at + 2);
                    if (at < 0) {
                        return false;
                    }
                } else {
                    return true;
                }
            }
            return true;
        }

        private int commentEnd(int from) {
            for (int i = from; i + 1 < end; i++) {
                if (source[i] == '*' && source[i + 1] == '/') {
                    return i + 2;
                }
            }
            return -1;
        }

        private int byteAt(int i) {
            return i < end ? source[i] : -1;
        }

        private boolean isWordStart(int i) {
            return i < end && (Texts.isLetter(source[i]) || source[i] == '_');
        }

        private void readWord(int from, int newKind) {
            wordBegin = from;
            at = from;
            while (at < end && (isWordStart(at) || Texts.isDigit(source[at]))) {
                at++;
            }
            kind = newKind;
        }

        private void readNumber() {
            long value = 0;
            while (at < end && Texts.isDigit(source[at])) {
                // Above the largest it only has to stay above it.
                value = Math.min(value * 10 + source[at] - '0', LARGEST + 1);
                at++;
            }
            int unit = Texts.upper(byteAt(at));
            int shift = unit == 'K' ? 10 : unit == 'M' ? 20 : unit == 'G' ? 30 : 0;
            if (shift > 0) {
                value = value << shift;
                at++;
            }
            boolean apart = !isWordStart(at) && !Texts.isDigit(byteAt(at));
            kind = apart && value <= LARGEST ? NUMBER : BAD;
            number = (int) value;
        }

        private void readQuoted() {
            kind = BAD;
            int i = begin + 1;
            while (i < end && strings.used - strings.begun <= QUOTED_BYTES && kind == BAD) {
                if (source[i] == '"') {
                    kind = STRING;
                    strings.close();
                } else {
                    i += source[i] == '\\' ? 1 : 0;
                    if (i < end) {
                        strings.put(source[i]);
                    }
                }
                i++;
            }
            at = i;
        }

        /** Where the lines of a text begin, behind text: and a line's end; -1 if the word is none that begins one. */
        private int linesOfText() {
            if (byteAt(at) != ':' || Texts.place("text", source, wordBegin, at) != 0) {
                return -1;
            }
            int i = at + 1;
            while (i < end && Texts.isBlank(source[i])) {
                i++;
            }
            if (byteAt(i) == 13) {
                i++;
            }
            return byteAt(i) == 10 ? i + 1 : -1;
        }

        private void readText(int lines) {
            kind = BAD;
            int i = lines;
            while (i < end && strings.used - strings.begun <= TEXT_BYTES && kind == BAD) {
                int close = Texts.find(source, i, end, 10);
                if (close < 0) {
                    return;
                }
                boolean dot = source[i] == '.';
                if (dot && (close == i + 1 || close == i + 2 && source[i + 1] == 13)) {
                    kind = STRING;
                    strings.close();
                } else {
                    strings.putRange(source, dot && source[i + 1] == '.' ? i + 1 : i, close + 1);
                }
                i = close + 1;
            }
            at = i;
        }
    }

    /** A command or a test of a script, with its tags and where its strings stand in the script's list. */
    private static final class Node {
        static final int IF = 0;
        static final int STOP = 1;
        static final int DISCARD = 2;
        static final int KEEP = 3;
        static final int FILEINTO = 4;
        static final int REDIRECT = 5;
        static final int REJECT = 6;
        static final int SETFLAG = 7;
        static final int ADDFLAG = 8;
        static final int REMOVEFLAG = 9;
        static final int VACATION = 10;
        static final int HEADER = 11;
        static final int ADDRESS = 12;
        static final int ENVELOPE = 13;
        static final int HASFLAG = 14;
        static final int EXISTS = 15;
        static final int SIZE = 16;
        static final int ALLOF = 17;
        static final int ANYOF = 18;
        static final int NOT = 19;
        static final int TRUE = 20;
        static final int FALSE = 21;
        static final int ELSIF = 22;
        static final int ELSE = 23;
        static final int BLOCK_END = 24;
        static final int REQUIRE = 25;

        static final int NAMES = 0;
        static final int KEYS = 1;
        static final int FLAGS = 2;
        static final int BOX = 3;
        static final int TARGET = 4;
        static final int REASON = 5;
        static final int SUBJECT = 6;
        static final int HANDLE = 7;
        static final int OWN_ADDRESSES = 8;
        static final int RELATION = 9;
        static final int COMPARATOR = 10;
        static final int EXTENSION = 11;
        static final int LISTS = 12;

        static final int MATCH_TAG = 1;
        static final int COMPARATOR_TAG = 2;
        static final int PART_TAG = 4;
        static final int FLAGS_TAG = 8;
        static final int COPY_TAG = 16;
        static final int DAYS_TAG = 32;
        static final int SUBJECT_TAG = 64;
        static final int ADDRESSES_TAG = 128;
        static final int HANDLE_TAG = 256;
        static final int OVER_TAG = 512;

        static final int IS = 0;
        static final int CONTAINS = 1;
        static final int MATCHES = 2;
        static final int COUNT = 3;
        static final int WHOLE = 0;
        static final int LOCALPART = 1;

        static final String COMPARATORS = "i;ascii-casemap i;octet i;ascii-numeric";
        static final int CASEMAP = 0;
        static final int NUMERIC = 2;
        static final String RELATIONS = "gt ge lt le eq ne";

        int kind;
        int parent;
        int depth;
        int end;
        int behind;
        int tags;
        int match;
        int relation;
        int comparator;
        int part;
        int number;
        int flags;
        boolean isOver;
        final int[] first = new int[LISTS];
        final int[] amount = new int[LISTS];

        void reset(int newKind, int newParent, int newDepth) {
            kind = newKind;
            parent = newParent;
            depth = newDepth;
            tags = 0;
            match = IS;
            comparator = CASEMAP;
            part = WHOLE;
            flags = 0;
            Arrays.fill(amount, 0);
        }

        boolean isSimpleTest() {
            return kind >= HEADER && kind <= FALSE && kind != ALLOF && kind != ANYOF && kind != NOT;
        }

        boolean isElse() {
            return kind == ELSIF || kind == ELSE;
        }

        boolean has(int tag) {
            return (tags & tag) != 0;
        }

        int handle() {
            return has(HANDLE_TAG) ? first[HANDLE] : first[REASON];
        }

        /** Whether a value and a key, both raised if the comparator is without case, match. */
        boolean isMatch(Texts values, int v, Texts keys, int k) {
            if (match == CONTAINS) {
                return comparator != NUMERIC && isWithin(values, v, keys, k);
            }
            if (match == MATCHES) {
                return comparator != NUMERIC && isPattern(values, v, keys, k);
            }
            int order = comparator == NUMERIC ? orderOfNumbers(values, v, keys, k) : orderOfBytes(values, v, keys, k);
            return match == IS ? order == 0 : stands(order);
        }

        boolean stands(int order) {
            switch (relation) {
                case 0: return order > 0;
                case 1: return order >= 0;
                case 2: return order < 0;
                case 3: return order <= 0;
                case 4: return order == 0;
                default: return order != 0;
            }
        }

        private static int orderOfBytes(Texts a, int i, Texts b, int j) {
            int both = Math.min(a.lengthOf(i), b.lengthOf(j));
            for (int at = 0; at < both; at++) {
                int one = a.row[a.from[i] + at] & 255;
                int other = b.row[b.from[j] + at] & 255;
                if (one != other) {
                    return one - other;
                }
            }
            return a.lengthOf(i) - b.lengthOf(j);
        }

        /** Of the numbers at the beginnings; what has none is greater than all numbers. */
        static int orderOfNumbers(Texts a, int i, Texts b, int j) {
            int one = a.from[i];
            int other = b.from[j];
            int oneEnd = digitsEnd(a, i);
            int otherEnd = digitsEnd(b, j);
            if (one == oneEnd || other == otherEnd) {
                return (one == oneEnd ? 1 : 0) - (other == otherEnd ? 1 : 0);
            }
            while (one < oneEnd && a.row[one] == '0') {
                one++;
            }
            while (other < otherEnd && b.row[other] == '0') {
                other++;
            }
            int longer = (oneEnd - one) - (otherEnd - other);
            while (longer == 0 && one < oneEnd && other < otherEnd && a.row[one] == b.row[other]) {
                one++;
                other++;
            }
            return longer != 0 || one >= oneEnd || other >= otherEnd ? longer : a.row[one] - b.row[other];
        }

        private static int digitsEnd(Texts texts, int i) {
            int at = texts.from[i];
            while (at < texts.to[i] && texts.row[at] >= '0' && texts.row[at] <= '9') {
                at++;
            }
            return at;
        }

        private static boolean isWithin(Texts values, int v, Texts keys, int k) {
            int length = keys.lengthOf(k);
            for (int from = values.from[v]; from + length <= values.to[v]; from++) {
                int same = 0;
                while (same < length && values.row[from + same] == keys.row[keys.from[k] + same]) {
                    same++;
                }
                if (same == length) {
                    return true;
                }
            }
            return false;
        }

        /** Goes back only to the last * that was met, so it takes at most one turn for each pair of bytes. */
        private static boolean isPattern(Texts values, int v, Texts keys, int k) {
            byte[] key = keys.row;
            int end = keys.to[k];
            int at = values.from[v];
            int p = keys.from[k];
            int star = -1;
            int starAt = at;
            int turns = (values.lengthOf(v) + 2) * (keys.lengthOf(k) + 2);
            for (int turn = 0; turn < turns && at < values.to[v]; turn++) {
                boolean escaped = p + 1 < end && key[p] == '\\';
                int sign = escaped ? p + 1 : p;
                boolean any = p < end && key[p] == '?';
                if (p < end && key[p] == '*') {
                    p++;
                    star = p;
                    starAt = at;
                } else if (any || p < end && key[sign] == values.row[at]) {
                    p = sign + 1;
                    at++;
                } else if (star >= 0) {
                    starAt++;
                    at = starAt;
                    p = star;
                } else {
                    return false;
                }
            }
            while (p < end && key[p] == '*') {
                p++;
            }
            return p == end && at == values.to[v];
        }
    }

    /** Looks for a script's first fault, and makes its nodes: in the order in which they stand there. */
    private static final class Parser {
        static final int MOST_NODES = 320;
        private static final int STACK = 120;
        private static final int MOST_PUSHED = 4;
        private static final int MOST_TURNS = 20000;
        private static final int MOST_COUNTED = 100;
        private static final int DEEPEST = 8;
        private static final int MOST_IN_LIST = 10;

        private static final String COMMAND_WORDS =
            "if stop discard keep fileinto redirect reject setflag addflag removeflag vacation";
        private static final String TEST_WORDS =
            "header address envelope hasflag exists size allof anyof not true false";
        private static final String TAG_WORDS =
            "is contains matches count value comparator all localpart domain flags copy days subject addresses handle over under";
        private static final int COUNT_WORD = 3;
        private static final int VALUE_WORD = 4;
        private static final int COMPARATOR_WORD = 5;
        private static final int ALL_WORD = 6;
        private static final int FLAGS_WORD = 9;
        private static final int DAYS_WORD = 11;
        private static final int SUBJECT_WORD = 12;
        private static final int ADDRESSES_WORD = 13;
        private static final int HANDLE_WORD = 14;
        private static final int OVER_WORD = 15;
        // In the order of these words.
        private static final int[] TAG_GROUPS = {
            Node.MATCH_TAG, Node.MATCH_TAG, Node.MATCH_TAG, Node.MATCH_TAG, Node.MATCH_TAG, Node.COMPARATOR_TAG,
            Node.PART_TAG, Node.PART_TAG, Node.PART_TAG, Node.FLAGS_TAG, Node.COPY_TAG, Node.DAYS_TAG,
            Node.SUBJECT_TAG, Node.ADDRESSES_TAG, Node.HANDLE_TAG, Node.OVER_TAG, Node.OVER_TAG};

        private static final String EXTENSIONS =
            "fileinto reject envelope copy imap4flags relational vacation comparator-i;ascii-numeric";
        private static final int NUMERIC_EXTENSION = 128;
        // Which extensions a tag or a node's kind needs, as bits in the order of their names.
        private static final int[] NEEDED_BY_TAGS = {0, 0, 0, 32, 32, 0, 0, 0, 0, 16, 8, 0, 0, 0, 0, 0, 0};
        private static final int[] NEEDED_BY_KINDS =
            {0, 0, 0, 0, 1, 0, 2, 16, 16, 16, 64, 0, 0, 4, 16, 0, 0, 0, 0, 0, 0, 0, 0, 0, 0, 0};
        // The groups of tags that a node's kind may have.
        private static final int[] TAGS_OF_KINDS =
            {0, 0, 0, 8, 24, 16, 0, 0, 0, 0, 480, 3, 7, 7, 3, 0, 512, 0, 0, 0, 0, 0, 0, 0, 0, 0};

        private static final int SCRIPT = 0;
        private static final int COMMANDS = 1;
        private static final int BLOCK = 2;
        private static final int BODY = 3;
        private static final int ELSES = 4;
        private static final int TEST = 5;
        private static final int MORE_TESTS = 6;
        private static final int TEST_END = 7;
        private static final int TAGS = 8;
        private static final int NUMBER = 9;
        private static final int STRING = 10;
        private static final int STRINGS = 11;
        private static final int MORE_STRINGS = 12;
        private static final int SIGN = 13;

        private static final int REFUSED = 0;
        private static final int TAKEN = 1;
        private static final int PASSED = 2;
        private static final int DONE = 3;

        final Lexer lexer = new Lexer();
        final Node[] nodes = new Node[MOST_NODES];
        int nodeCount;
        private final int[] symbols = new int[STACK];
        private final int[] arguments = new int[STACK];
        private int height;
        private int counted;
        private int openBlocks;
        private int required;

        Parser() {
            for (int i = 0; i < MOST_NODES; i++) {
                nodes[i] = new Node();
            }
        }

        /** The line of the first fault, or 0 if there is none: then the nodes from 1 on are the script. */
        int parse(byte[] source, int from, int to) {
            open(source, from, to);
            int answer = TAKEN;
            for (int turn = 0; turn < MOST_TURNS && (answer == PASSED || answer == TAKEN); turn++) {
                if (answer == TAKEN) {
                    lexer.next();
                }
                if (lexer.kind == Lexer.BAD || height == 0 || height > STACK - MOST_PUSHED || nodeCount >= MOST_NODES) {
                    return lexer.line();
                }
                // What is asked for next, the top of the stack, looks at the token.
                int argument = arguments[height - 1];
                switch (symbols[height - 1]) {
                    case SCRIPT: answer = require(); break;
                    case COMMANDS: answer = lexer.kind == Lexer.END ? DONE : startCommand(); break;
                    case BLOCK: answer = openBlock(argument); break;
                    case BODY: answer = lexer.isSign('}') ? closeBlock(argument) : startCommand(); break;
                    case ELSES: answer = startElse(); break;
                    case TEST: answer = startTest(argument); break;
                    case MORE_TESTS: answer = moreTests(argument); break;
                    case TEST_END: answer = endTest(argument, PASSED); break;
                    case TAGS: answer = lexer.kind == Lexer.TAG ? takeTag(argument) : pop(PASSED); break;
                    case NUMBER: answer = takeNumber(argument); break;
                    case STRING: answer = takeString(argument); break;
                    case STRINGS: answer = lexer.isSign('[') ? openList(argument) : takeString(argument); break;
                    case MORE_STRINGS: answer = moreStrings(argument); break;
                    default: answer = lexer.isSign(argument) ? pop(TAKEN) : REFUSED;
                }
            }
            return answer == DONE ? 0 : lexer.line();
        }

        private void open(byte[] source, int from, int to) {
            lexer.open(source, from, to);
            nodeCount = 0;
            counted = 0;
            openBlocks = 0;
            required = 0;
            height = 0;
            addNode(Node.REQUIRE, 0, 0);
            push(SCRIPT, 0);
        }

        private void push(int symbol, int argument) {
            if (height < STACK) {
                symbols[height] = symbol;
                arguments[height] = argument;
                height++;
            }
        }

        private void pushList(int symbol, int node, int list) {
            push(symbol, node * Node.LISTS + list);
        }

        private int addNode(int kind, int parent, int depth) {
            if (nodeCount >= MOST_NODES) {
                return 0;
            }
            int node = nodeCount;
            nodeCount++;
            nodes[node].reset(kind, parent, depth);
            nodes[node].end = nodeCount;
            nodes[node].behind = nodeCount;
            return node;
        }

        private int pop(int answer) {
            height--;
            return answer;
        }

        private int require() {
            if (lexer.kind == Lexer.WORD && lexer.placeIn("require") == 0) {
                nodes[0].amount[Node.EXTENSION] = 0;
                push(SIGN, ';');
                pushList(STRINGS, 0, Node.EXTENSION);
                return TAKEN;
            }
            height--;
            push(COMMANDS, 0);
            return PASSED;
        }

        private boolean isLacking(int needed) {
            return (required & needed) != needed;
        }

        private int startCommand() {
            int kind = lexer.kind == Lexer.WORD ? lexer.placeIn(COMMAND_WORDS) : -1;
            if (kind < 0 || counted == MOST_COUNTED || isLacking(NEEDED_BY_KINDS[kind])) {
                return REFUSED;
            }
            counted++;
            int node = addNode(kind, 0, 0);
            if (kind == Node.IF) {
                push(ELSES, 0);
                push(BLOCK, node);
                push(TEST, node);
                return TAKEN;
            }
            push(SIGN, ';');
            switch (kind) {
                case Node.FILEINTO: pushList(STRING, node, Node.BOX); break;
                case Node.REDIRECT: pushList(STRING, node, Node.TARGET); break;
                case Node.REJECT: case Node.VACATION: pushList(STRING, node, Node.REASON); break;
                case Node.SETFLAG: case Node.ADDFLAG: case Node.REMOVEFLAG: pushList(STRINGS, node, Node.FLAGS); break;
                default: break;
            }
            if (TAGS_OF_KINDS[kind] != 0) {
                push(TAGS, node);
            }
            return TAKEN;
        }

        private int openBlock(int branch) {
            if (!lexer.isSign('{') || openBlocks == DEEPEST) {
                return REFUSED;
            }
            openBlocks++;
            height--;
            push(BODY, branch);
            return TAKEN;
        }

        private int closeBlock(int branch) {
            openBlocks--;
            addNode(Node.BLOCK_END, branch, 0);
            nodes[branch].behind = nodeCount;
            return pop(TAKEN);
        }

        private int startElse() {
            int word = lexer.kind == Lexer.WORD ? lexer.placeIn("elsif else") : -1;
            if (word < 0) {
                return pop(PASSED);
            }
            int node = addNode(word == 0 ? Node.ELSIF : Node.ELSE, 0, 0);
            if (word == 1) {
                height--;
            }
            push(BLOCK, node);
            if (word == 0) {
                push(TEST, node);
            }
            return TAKEN;
        }

        private int startTest(int parent) {
            int place = lexer.kind == Lexer.WORD ? lexer.placeIn(TEST_WORDS) : -1;
            int kind = Node.HEADER + place;
            int depth = nodes[parent].depth + 1;
            if (place < 0 || counted == MOST_COUNTED || depth > DEEPEST || isLacking(NEEDED_BY_KINDS[kind])) {
                return REFUSED;
            }
            counted++;
            height--;
            int node = addNode(kind, parent, depth);
            switch (kind) {
                case Node.NOT:
                    push(TEST_END, node);
                    push(TEST, node);
                    break;
                case Node.ALLOF: case Node.ANYOF:
                    push(MORE_TESTS, node);
                    push(TEST, node);
                    push(SIGN, '(');
                    break;
                case Node.TRUE: case Node.FALSE: break;
                default: pushPartsOfTest(node, kind);
            }
            return TAKEN;
        }

        private void pushPartsOfTest(int node, int kind) {
            if (kind == Node.SIZE) {
                push(NUMBER, node);
            } else if (kind != Node.EXISTS) {
                pushList(STRINGS, node, Node.KEYS);
            }
            if (kind != Node.SIZE && kind != Node.HASFLAG) {
                pushList(STRINGS, node, Node.NAMES);
            }
            if (TAGS_OF_KINDS[kind] != 0) {
                push(TAGS, node);
            }
        }

        private int moreTests(int node) {
            if (lexer.isSign(',')) {
                push(TEST, node);
                return TAKEN;
            }
            return lexer.isSign(')') ? endTest(node, TAKEN) : REFUSED;
        }

        private int endTest(int node, int answer) {
            nodes[node].end = nodeCount;
            return pop(answer);
        }

        private int takeTag(int index) {
            Node node = nodes[index];
            int tag = lexer.placeIn(TAG_WORDS);
            if (tag < 0 || (TAGS_OF_KINDS[node.kind] & TAG_GROUPS[tag]) == 0 || node.has(TAG_GROUPS[tag])
                || isLacking(NEEDED_BY_TAGS[tag])) {
                return REFUSED;
            }
            node.tags |= TAG_GROUPS[tag];
            if (tag <= VALUE_WORD) {
                node.match = tag;
            } else if (node.kind == Node.SIZE) {
                node.isOver = tag == OVER_WORD;
            }
            switch (tag) {
                case COUNT_WORD: case VALUE_WORD: pushList(STRING, index, Node.RELATION); break;
                case COMPARATOR_WORD: pushList(STRING, index, Node.COMPARATOR); break;
                case FLAGS_WORD: pushList(STRINGS, index, Node.FLAGS); break;
                case DAYS_WORD: push(NUMBER, index); break;
                case SUBJECT_WORD: pushList(STRING, index, Node.SUBJECT); break;
                case ADDRESSES_WORD: pushList(STRINGS, index, Node.OWN_ADDRESSES); break;
                case HANDLE_WORD: pushList(STRING, index, Node.HANDLE); break;
                default: break;
            }
            if (TAG_GROUPS[tag] == Node.PART_TAG) {
                node.part = tag - ALL_WORD;
            }
            return TAKEN;
        }

        private int takeNumber(int index) {
            Node node = nodes[index];
            if (lexer.kind != Lexer.NUMBER || node.kind == Node.SIZE && !node.has(Node.OVER_TAG)) {
                return REFUSED;
            }
            node.number = lexer.number;
            return pop(TAKEN);
        }

        private int openList(int argument) {
            height--;
            push(MORE_STRINGS, argument);
            push(STRING, argument);
            return TAKEN;
        }

        private int moreStrings(int argument) {
            if (lexer.isSign(',')) {
                push(STRING, argument);
                return TAKEN;
            }
            return lexer.isSign(']') ? pop(TAKEN) : REFUSED;
        }

        private int takeString(int argument) {
            Node node = nodes[argument / Node.LISTS];
            int list = argument % Node.LISTS;
            int index = lexer.strings.size - 1;
            if (lexer.kind != Lexer.STRING || index < 0 || index >= Lexer.MOST_STRINGS
                || node.amount[list] == MOST_IN_LIST || !isAskedFor(node, list, index)) {
                return REFUSED;
            }
            if (node.amount[list] == 0) {
                node.first[list] = index;
            }
            node.amount[list]++;
            return pop(TAKEN);
        }

        private boolean isAskedFor(Node node, int list, int index) {
            Texts strings = lexer.strings;
            int start = strings.from[index];
            int end = strings.to[index];
            switch (list) {
                case Node.EXTENSION:
                    int extension = Texts.place(EXTENSIONS, strings.row, start, end);
                    required |= extension < 0 ? 0 : 1 << extension;
                    return extension >= 0;
                case Node.RELATION:
                    node.relation = Texts.place(Node.RELATIONS, strings.row, start, end);
                    return node.relation >= 0;
                case Node.COMPARATOR:
                    node.comparator = Texts.place(Node.COMPARATORS, strings.row, start, end);
                    return node.comparator >= 0 && !(node.comparator == Node.NUMERIC && isLacking(NUMERIC_EXTENSION));
                case Node.FLAGS:
                    int flag = Texts.place(Reader.FLAG_NAMES, strings.row, start, end);
                    node.flags |= flag < 0 ? 0 : 1 << flag;
                    return true;
                case Node.BOX:
                    return isBoxName(strings, index);
                case Node.TARGET:
                    return Texts.isAddress(strings.row, start, end);
                default:
                    return true;
            }
        }

        private static boolean isBoxName(Texts strings, int index) {
            for (int i = strings.from[index]; i < strings.to[index]; i++) {
                int b = strings.row[i];
                if (b < 32 || b > 126 || b == '"') {
                    return false;
                }
            }
            return strings.lengthOf(index) > 0 && strings.lengthOf(index) <= User.BOX_NAME_BYTES;
        }
    }

    /** What tests and answers ask of the message that was delivered: its fields and the addresses in them. */
    private static final class Reader {
        private static final int NAME_BYTES = 60;
        private static final int MOST_FIELDS = 1001;
        private static final int MOST_BYTES = 4400;
        static final String FLAG_NAMES = "\\Seen \\Answered \\Flagged \\Deleted \\Draft";
        private static final int NO_ANGLE = 0;
        private static final int IN_ANGLE = 1;
        private static final int PAST_ANGLE = 2;

        final Texts names = new Texts(MOST_FIELDS, MOST_BYTES);
        final Texts values = new Texts(MOST_FIELDS, MOST_BYTES);
        private final Texts found = new Texts(MOST_FIELDS, MOST_BYTES);
        private final Texts foundCount = new Texts(1, 10);
        private final Texts strings;
        final Delivery delivery;

        Reader(Delivery delivery, Texts strings) {
            this.delivery = delivery;
            this.strings = strings;
        }

        void readHeader() {
            names.clear();
            values.clear();
            int size = delivery.isTooBig() ? 0 : delivery.textSize;
            int at = 0;
            while (at < size) {
                int end = lineEnd(at, size);
                int value = valueStart(at, end);
                if (value < 0) {
                    break;
                }
                values.putRange(delivery.text, value, end);
                at = end + 2;
            }
            if (names.size > 0) {
                values.closeTrimmed();
            }
        }

        private int lineEnd(int start, int size) {
            byte[] text = delivery.text;
            for (int i = start; i + 1 < size; i++) {
                if (text[i] == 13 && text[i + 1] == 10) {
                    return i;
                }
            }
            return size;
        }

        /** Where the part of a value begins on this line of the header; -1 if the line ends the header. */
        private int valueStart(int start, int end) {
            byte[] text = delivery.text;
            if (start < end && Texts.isBlank(text[start])) {
                return names.size > 0 ? start : -1;
            }
            int nameEnd = start;
            while (nameEnd < end && text[nameEnd] > 32 && text[nameEnd] < 127 && text[nameEnd] != ':') {
                nameEnd++;
            }
            int colon = nameEnd;
            while (colon < end && Texts.isBlank(text[colon])) {
                colon++;
            }
            if (nameEnd == start || nameEnd - start > NAME_BYTES || colon >= end || text[colon] != ':') {
                return -1;
            }
            if (names.size > 0) {
                values.closeTrimmed();
            }
            names.putRange(text, start, nameEnd);
            names.close();
            return colon + 1;
        }

        /** Adds the addresses in a field's value to what was found. */
        private void findAddresses(int field) {
            int end = values.to[field];
            int angle = NO_ANGLE;
            int depth = 0;
            boolean quoted = false;
            boolean escaped = false;
            for (int i = values.from[field]; i <= end; i++) {
                int b = i < end ? values.row[i] : ',';
                boolean within = quoted || depth > 0;
                if (i == end || b == ',' && !within && angle != IN_ANGLE) {
                    if (angle != IN_ANGLE && Texts.isAddress(found.row, found.begun, found.used)) {
                        found.close();
                    }
                    found.drop();
                    angle = NO_ANGLE;
                } else if (within && (escaped || b == '\\')) {
                    escaped = !escaped;
                } else if (quoted) {
                    quoted = b != '"';
                } else if (b == '(' || b == ')' && depth > 0) {
                    depth += b == '(' ? 1 : -1;
                } else if (depth > 0 || b == ' ' || b == 9) {
                    continue;
                } else if (b == '<' && angle == NO_ANGLE) {
                    angle = IN_ANGLE;
                    found.drop();
                } else if (b == '>' && angle == IN_ANGLE) {
                    angle = PAST_ANGLE;
                } else {
                    // A quote is put too: it keeps what has it from being an address.
                    quoted = b == '"';
                    if (angle != PAST_ANGLE) {
                        found.put(b);
                    }
                }
            }
        }

        /** Finds the values that a test looks at. */
        void gather(Node test, int recipient, int flags) {
            found.clear();
            for (int i = 0; i < names.size; i++) {
                if (test.kind == Node.HEADER && isListed(test, i)) {
                    found.addFrom(values, i);
                } else if (test.kind == Node.ADDRESS && isListed(test, i)) {
                    findAddresses(i);
                }
            }
            if (test.kind == Node.ENVELOPE) {
                gatherEnvelope(test, recipient);
            } else if (test.kind == Node.HASFLAG) {
                gatherFlags(flags);
            }
            for (int i = 0; i < found.size && test.part != Node.WHOLE; i++) {
                narrow(i, test.part);
            }
            if (test.comparator == Node.CASEMAP) {
                found.raise(0, found.size);
                strings.raise(test.first[Node.KEYS], test.amount[Node.KEYS]);
            }
        }

        private boolean isListed(Node test, int field) {
            for (int i = 0; i < test.amount[Node.NAMES]; i++) {
                if (names.isSameText(field, strings, test.first[Node.NAMES] + i, true)) {
                    return true;
                }
            }
            return false;
        }

        private void gatherEnvelope(Node test, int recipient) {
            boolean from = false;
            boolean to = false;
            for (int i = 0; i < test.amount[Node.NAMES]; i++) {
                int string = test.first[Node.NAMES] + i;
                int place = Texts.place("from to", strings.row, strings.from[string], strings.to[string]);
                from = from || place == 0;
                to = to || place == 1;
            }
            if (from) {
                found.addFrom(delivery.sender, 0);
            }
            if (to) {
                found.addFrom(delivery.recipients, recipient);
            }
        }

        private void gatherFlags(int flags) {
            int flag = 0;
            for (int i = 0; i <= FLAG_NAMES.length(); i++) {
                boolean set = (flags >> flag & 1) != 0;
                if (i < FLAG_NAMES.length() && FLAG_NAMES.charAt(i) != ' ') {
                    if (set) {
                        found.put(FLAG_NAMES.charAt(i));
                    }
                } else {
                    if (set) {
                        found.close();
                    }
                    flag++;
                }
            }
        }

        private void narrow(int i, int part) {
            int at = Texts.find(found.row, found.from[i], found.to[i], '@');
            if (at >= 0 && part == Node.LOCALPART) {
                found.to[i] = at;
            } else if (at >= 0) {
                found.from[i] = at + 1;
            }
        }

        /** Whether a test, whose values were gathered, holds. */
        boolean holds(Node test) {
            switch (test.kind) {
                case Node.TRUE: return true;
                case Node.FALSE: return false;
                case Node.EXISTS: return hasAllFields(test);
                case Node.SIZE: return test.isOver ? delivery.textSize > test.number : delivery.textSize < test.number;
                default: break;
            }
            if (test.match == Node.COUNT) {
                return isCount(test);
            }
            for (int v = 0; v < found.size; v++) {
                for (int k = 0; k < test.amount[Node.KEYS]; k++) {
                    if (test.isMatch(found, v, strings, test.first[Node.KEYS] + k)) {
                        return true;
                    }
                }
            }
            return false;
        }

        private boolean hasAllFields(Node test) {
            for (int i = 0; i < test.amount[Node.NAMES]; i++) {
                boolean there = false;
                for (int field = 0; field < names.size && !there; field++) {
                    there = names.isSameText(field, strings, test.first[Node.NAMES] + i, true);
                }
                if (!there) {
                    return false;
                }
            }
            return true;
        }

        private boolean isCount(Node test) {
            foundCount.clear();
            foundCount.putNumber(found.size);
            foundCount.close();
            for (int k = 0; k < test.amount[Node.KEYS]; k++) {
                if (test.stands(Node.orderOfNumbers(foundCount, 0, strings, test.first[Node.KEYS] + k))) {
                    return true;
                }
            }
            return false;
        }

        /** The first field with one of these names, or -1. */
        int fieldNamed(String words) {
            for (int i = 0; i < names.size; i++) {
                if (Texts.place(words, names.row, names.from[i], names.to[i]) >= 0) {
                    return i;
                }
            }
            return -1;
        }

        /** Whether the message may be answered by a machine: neither its sender nor its header tells of one. */
        boolean isFromPerson() {
            if (delivery.sender.lengthOf(0) == 0 || fieldNamed("List-Id List-Post Precedence") >= 0) {
                return false;
            }
            for (int i = 0; i < names.size; i++) {
                if (names.placeIn("Auto-Submitted", i) == 0 && values.placeIn("no", i) != 0) {
                    return false;
                }
            }
            byte[] row = delivery.sender.row;
            int at = Texts.find(row, 0, delivery.sender.to[0], '@');
            return Texts.place("mailer-daemon listserv majordomo", row, 0, at) < 0
                && !(at >= 6 && Texts.place("owner-", row, 0, 6) == 0)
                && !(at >= 8 && Texts.place("-request", row, at - 8, at) == 0);
        }

        /** Whether the message names the recipient, or an address that the vacation tells as his own. */
        boolean isAddressed(Node vacation, int recipient) {
            found.clear();
            for (int i = 0; i < names.size; i++) {
                if (names.placeIn("To Cc Bcc", i) >= 0) {
                    findAddresses(i);
                }
            }
            for (int i = 0; i < found.size; i++) {
                boolean his = found.isSameText(i, delivery.recipients, recipient, true);
                for (int k = 0; k < vacation.amount[Node.OWN_ADDRESSES] && !his; k++) {
                    his = found.isSameText(i, strings, vacation.first[Node.OWN_ADDRESSES] + k, true);
                }
                if (his) {
                    return true;
                }
            }
            return false;
        }
    }

    /** Runs a script over the message for one recipient, into a plan that nothing is done of yet. */
    private static final class Runner {
        private static final int MOST_REDIRECTS = 4;
        private static final int ANSWER_BYTES = 6000;
        private static final int MOST_DAYS = 30;
        private static final int USUAL_DAYS = 7;
        private static final int INBOX = 0;

        final int[] files = new int[User.MOST_BOXES];
        final int[] fileFlags = new int[User.MOST_BOXES];
        final int[] newBoxes = new int[User.MOST_BOXES];
        final int[] redirects = new int[MOST_REDIRECTS];
        final Texts answer = new Texts(1, ANSWER_BYTES);
        int fileCount;
        int newBoxCount;
        int redirectCount;
        boolean hasAnswer;
        Node vacation;
        private Node reject;
        private User user;
        private int recipient;
        private int flags;
        private boolean isKept;
        private boolean hasActed;
        private boolean hasFailed;
        private boolean hasStopped;
        private final Parser parser;
        private final Reader reader;

        Runner(Parser parser, Reader reader) {
            this.parser = parser;
            this.reader = reader;
        }

        void begin(User newUser, int newRecipient) {
            user = newUser;
            recipient = newRecipient;
            hasFailed = false;
            hasStopped = false;
            clearPlan();
        }

        private void clearPlan() {
            fileCount = 0;
            newBoxCount = 0;
            redirectCount = 0;
            vacation = null;
            reject = null;
            hasAnswer = false;
            hasActed = false;
            isKept = true;
            flags = 0;
        }

        void run() {
            int at = 1;
            // A script has no way back, so no node is met twice.
            for (int turn = 0; turn < Parser.MOST_NODES && at < parser.nodeCount && !hasStopped; turn++) {
                Node node = parser.nodes[at];
                if (node.isSimpleTest()) {
                    reader.gather(node, recipient, flags);
                    at = behindTest(at, reader.holds(node));
                } else if (node.kind == Node.BLOCK_END) {
                    at = behindElses(at + 1);
                } else {
                    perform(node);
                    at++;
                }
            }
        }

        /** Where it goes on behind a test that came out so: at the next part of the test it is in, or out of that. */
        private int behindTest(int test, boolean outcome) {
            boolean holds = outcome;
            int at = test;
            for (int level = 0; level < Parser.MOST_NODES; level++) {
                Node part = parser.nodes[at];
                Node whole = parser.nodes[part.parent];
                if (whole.kind == Node.IF || whole.kind == Node.ELSIF) {
                    return holds ? part.end : whole.behind;
                }
                if (whole.kind == Node.NOT) {
                    holds = !holds;
                } else if (holds == (whole.kind == Node.ALLOF) && part.end < whole.end) {
                    return part.end;
                }
                at = part.parent;
            }
            return parser.nodeCount;
        }

        private int behindElses(int start) {
            int at = start;
            while (at < parser.nodeCount && parser.nodes[at].isElse()) {
                at = Math.max(at + 1, parser.nodes[at].behind);
            }
            return at;
        }

        private void perform(Node node) {
            switch (node.kind) {
                case Node.STOP: hasStopped = true; break;
                case Node.DISCARD: isKept = false; break;
                case Node.KEEP: file(INBOX, node); break;
                case Node.FILEINTO: file(boxOf(node.first[Node.BOX]), node); break;
                case Node.REDIRECT: redirect(node); break;
                case Node.REJECT: rejectMessage(node); break;
                case Node.VACATION: goAway(node); break;
                case Node.SETFLAG: flags = node.flags; break;
                case Node.ADDFLAG: flags |= node.flags; break;
                case Node.REMOVEFLAG: flags &= ~node.flags; break;
                default: break;
            }
        }

        private void fail() {
            hasFailed = true;
            hasStopped = true;
        }

        /** Notes that a message goes somewhere: false if that can't be, behind a reject. */
        private boolean act(Node node) {
            if (reject != null) {
                fail();
                return false;
            }
            hasActed = true;
            isKept = isKept && node.has(Node.COPY_TAG);
            return true;
        }

        private void file(int box, Node node) {
            if (box >= 0 && act(node)) {
                addFile(box, node.has(Node.FLAGS_TAG) ? node.flags : flags);
            }
        }

        private void addFile(int box, int withFlags) {
            for (int i = 0; i < fileCount; i++) {
                if (files[i] == box) {
                    return;
                }
            }
            if (fileCount < files.length) {
                files[fileCount] = box;
                fileFlags[fileCount] = withFlags;
                fileCount++;
            }
        }

        /** The mailbox with this name, there or new; -1 if it would be one too many. */
        private int boxOf(int string) {
            Texts strings = parser.lexer.strings;
            if (Texts.place("INBOX", strings.row, strings.from[string], strings.to[string]) == 0) {
                return INBOX;
            }
            for (int i = 0; i < user.boxes.size; i++) {
                if (user.boxes.isSameText(i, strings, string, false)) {
                    return i;
                }
            }
            for (int i = 0; i < newBoxCount; i++) {
                if (strings.isSameText(newBoxes[i], strings, string, false)) {
                    return user.boxes.size + i;
                }
            }
            if (user.boxes.size + newBoxCount >= User.MOST_BOXES) {
                fail();
                return -1;
            }
            newBoxes[newBoxCount] = string;
            newBoxCount++;
            return user.boxes.size + newBoxCount - 1;
        }

        private void redirect(Node node) {
            Texts strings = parser.lexer.strings;
            int string = node.first[Node.TARGET];
            if (!act(node)) {
                return;
            }
            for (int i = 0; i < redirectCount; i++) {
                if (strings.isSameText(redirects[i], strings, string, true)) {
                    return;
                }
            }
            if (redirectCount == MOST_REDIRECTS) {
                fail();
                return;
            }
            redirects[redirectCount] = string;
            redirectCount++;
        }

        private void rejectMessage(Node node) {
            if (hasActed || reject != null || vacation != null) {
                fail();
                return;
            }
            reject = node;
            isKept = false;
        }

        private void goAway(Node node) {
            if (reject != null || vacation != null) {
                fail();
                return;
            }
            vacation = node;
        }

        /** Adds to the plan what is known only at the script's end. */
        void finish(int today) {
            if (hasFailed) {
                clearPlan();
            }
            if (isKept) {
                addFile(INBOX, flags);
            }
            if (reject != null && reader.delivery.sender.lengthOf(0) > 0) {
                writeAnswer(reject);
            }
            if (vacation != null && reader.isFromPerson() && reader.isAddressed(vacation, recipient)) {
                Entry note = user.latestNote(reader.delivery.sender, parser.lexer.strings, vacation.handle());
                if (note == null || today >= note.day + daysOf(vacation)) {
                    writeAnswer(vacation);
                }
            }
        }

        private static int daysOf(Node vacation) {
            int told = Math.max(1, Math.min(MOST_DAYS, vacation.number));
            return vacation.has(Node.DAYS_TAG) ? told : USUAL_DAYS;
        }

        private void writeAnswer(Node node) {
            Texts strings = parser.lexer.strings;
            hasAnswer = true;
            answer.clear();
            answer.putText("To: ");
            answer.putFrom(reader.delivery.sender, 0);
            answer.putText("\r\nSubject: ");
            if (node.kind == Node.REJECT) {
                answer.putText("Refused");
            } else if (node.has(Node.SUBJECT_TAG)) {
                answer.putFrom(strings, node.first[Node.SUBJECT]);
            } else {
                answer.putText("Auto: ");
                answer.putFrom(reader.values, reader.fieldNamed("Subject"));
            }
            answer.putText("\r\n\r\n");
            answer.putFrom(strings, node.first[Node.REASON]);
            answer.putText("\r\n");
        }
    }
}
