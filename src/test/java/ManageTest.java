/** Promise 5: manage, and the sessions for scripts. */
public final class ManageTest {
    private static final String SYNTAX = "NO \"syntax\"\r\n";
    private static final String OK = "OK\r\n";
    private static final String NONE = "NO \"none\"\r\n";
    private static final String SPACE = "NO \"space\"\r\n";

    public static void main(String[] args) {
        refusals();
        putAndGet();
        places();
        active();
        renaming();
        space();
        strings();
        literals();
        otherParts();
        wrongBytes();
        pieces();
        powerGoes();
        Probe.end("ManageTest");
    }

    private static void refusals() {
        Probe p = new Probe();
        p.feed("LISTSCRIPTS\r\n");
        Probe.due("user -1", p.call().manage(-1, 13), -1);
        Probe.due("user 4", p.call().manage(4, 13), -1);
        Probe.due("below 0", p.call().manage(0, -1), -1);
        Probe.due("more than there are", p.call().manage(0, 21), -1);
        Probe.due("tape stays", p.call().count(5), 20);
        Probe.due("the first bytes", p.call().manage(2, 13), 13);
        Probe.due("the whole tape is empty", p.call().count(5), 0);
        Probe.due("answer", p.replies(2), OK);
        Probe.due("no answer to another user", p.replies(0), "");
        p.call().cut(1);
        p.call().tick();
        Probe.due("without power", p.call().manage(0, 0), -1);
    }

    private static void putAndGet() {
        Probe p = new Probe();
        Probe.due("put", p.manage(0, "PUTSCRIPT \"one\" \"keep;\"\r\nputscript \"two\" {9+}\r\nstop;\r\n##\r\nPUTSCRIPT \"none\" \"\"\r\n"), OK + OK + OK);
        Probe.due("get", p.manage(0, "GETSCRIPT \"one\"\r\ngetscript {3+}\r\ntwo\r\nGETSCRIPT \"none\"\r\nGETSCRIPT \"One\"\r\n"),
            "{5}\r\nkeep;\r\nOK\r\n{9}\r\nstop;\r\n##\r\nOK\r\n{0}\r\n\r\nOK\r\n" + NONE);
        Probe.due("put in its place", p.manage(0, "PUTSCRIPT \"one\" \"discard;\"\r\nGETSCRIPT \"one\"\r\nLISTSCRIPTS\r\n"),
            OK + "{8}\r\ndiscard;\r\nOK\r\n\"one\"\r\n\"two\"\r\n\"none\"\r\nOK\r\n");
        Probe.due("a fault", p.manage(0, "PUTSCRIPT \"one\" {12+}\r\nkeep;\n\nfoo;;\r\nCHECKSCRIPT \"foo\"\r\nCHECKSCRIPT \"keep;\"\r\nGETSCRIPT \"one\"\r\n"),
            "NO \"line 3\"\r\nNO \"line 1\"\r\nOK\r\n{8}\r\ndiscard;\r\nOK\r\n");
        Probe.due("other users have none", p.manage(1, "LISTSCRIPTS\r\nGETSCRIPT \"one\"\r\n"), OK + NONE);
        Probe.due("commits", p.call().count(4), 4);
    }

    private static void places() {
        Probe p = new Probe();
        Probe.due("four", p.manage(3, "PUTSCRIPT \"a\" \"\"\r\nPUTSCRIPT \"b\" \"\"\r\nPUTSCRIPT \"c\" \"\"\r\nPUTSCRIPT \"d\" \"\"\r\n"), OK.repeat(4));
        Probe.due("a fifth one", p.manage(3, "PUTSCRIPT \"e\" \"\"\r\nPUTSCRIPT \"e\" \"x\"\r\nPUTSCRIPT \"b\" \"stop;\"\r\n"),
            SPACE + "NO \"line 1\"\r\n" + OK);
        Probe.due("in another's place", p.manage(3, "DELETESCRIPT \"b\"\r\nPUTSCRIPT \"e\" \"\"\r\nLISTSCRIPTS\r\n"),
            OK + OK + "\"a\"\r\n\"c\"\r\n\"d\"\r\n\"e\"\r\nOK\r\n");
        Probe.due("scripts", p.call().count(13), 4);
        Probe.due("delete none", p.manage(3, "DELETESCRIPT \"b\"\r\n"), NONE);
    }

    private static void active() {
        Probe p = new Probe();
        Probe.due("set", p.manage(0, "SETACTIVE \"a\"\r\nSETACTIVE \"\"\r\nPUTSCRIPT \"a\" \"discard;\"\r\nSETACTIVE \"a\"\r\nLISTSCRIPTS\r\n"),
            NONE + OK + OK + OK + "\"a\" ACTIVE\r\nOK\r\n");
        Probe.due("in the place of the active one", p.manage(0, "PUTSCRIPT \"a\" \"keep;\"\r\nDELETESCRIPT \"a\"\r\nLISTSCRIPTS\r\n"),
            OK + "NO \"active\"\r\n\"a\" ACTIVE\r\nOK\r\n");
        p.greet();
        p.send("<>", "anna@here", "x\r\n");
        Probe.due("the new one runs", p.boxes(0), "INBOX:1");
        Probe.due("another one", p.manage(0, "PUTSCRIPT \"b\" \"discard;\"\r\nSETACTIVE \"b\"\r\nDELETESCRIPT \"a\"\r\nLISTSCRIPTS\r\n"),
            OK + OK + OK + "\"b\" ACTIVE\r\nOK\r\n");
        p.send("<>", "anna@here", "x\r\n");
        Probe.due("which discards", p.boxes(0), "INBOX:1");
        Probe.due("none", p.manage(0, "SETACTIVE {0+}\r\n\r\nSETACTIVE \"\"\r\nDELETESCRIPT \"b\"\r\n"), OK + OK + OK);
        p.send("<>", "anna@here", "x\r\n");
        Probe.due("without any", p.boxes(0), "INBOX:2");
    }

    private static void renaming() {
        Probe p = new Probe();
        p.manage(0, "PUTSCRIPT \"a\" \"discard;\"\r\nPUTSCRIPT \"b\" \"\"\r\nSETACTIVE \"a\"\r\n");
        Probe.due("rename", p.manage(0, "RENAMESCRIPT \"x\" \"y\"\r\nRENAMESCRIPT \"x\" \"a\"\r\nRENAMESCRIPT \"a\" \"b\"\r\nRENAMESCRIPT \"a\" \"a\"\r\n"
            + "RENAMESCRIPT \"a\" \"c\"\r\nLISTSCRIPTS\r\n"),
            NONE + NONE + "NO \"exists\"\r\n".repeat(2) + OK + "\"c\" ACTIVE\r\n\"b\"\r\nOK\r\n");
        Probe.due("the old name is gone", p.manage(0, "GETSCRIPT \"a\"\r\nGETSCRIPT \"c\"\r\n"), NONE + "{8}\r\ndiscard;\r\nOK\r\n");
        Probe.due("commits", p.call().count(4), 4);
    }

    private static void space() {
        Probe p = new Probe();
        Probe.due("space", p.manage(0, "HAVESPACE \"a\" 2000\r\nHAVESPACE \"a\" 2001\r\nHAVESPACE \"a\" 000000000\r\nHAVESPACE \"a\" 999999999\r\n"),
            OK + SPACE + OK + SPACE);
        p.manage(0, "PUTSCRIPT \"a\" \"\"\r\nPUTSCRIPT \"b\" \"\"\r\nPUTSCRIPT \"c\" \"\"\r\nPUTSCRIPT \"d\" \"\"\r\n");
        Probe.due("space for a fifth one", p.manage(0, "HAVESPACE \"e\" 1\r\nHAVESPACE \"d\" 1\r\nHAVESPACE \"d\" 2001\r\n"), SPACE + OK + SPACE);
        Probe.due("numbers that are none", p.manage(0, "HAVESPACE \"a\" 1234567890\r\nHAVESPACE \"a\" \"1\"\r\nHAVESPACE \"a\" -1\r\nHAVESPACE 1 1\r\n"),
            SYNTAX.repeat(4));
        Probe.due("no commits of it", p.call().count(4), 4);
    }

    private static void strings() {
        Probe p = new Probe();
        String twenty = "name of 20 bytes ~<>";
        Probe.due("names", p.manage(0, "PUTSCRIPT \"a\\\"b\\\\\\c\" \"\"\r\nPUTSCRIPT \"" + twenty + "\" \"\"\r\nLISTSCRIPTS\r\n"),
            OK + OK + "\"a\\\"b\\\\c\"\r\n\"" + twenty + "\"\r\nOK\r\n");
        Probe.due("no names", p.manage(0, "PUTSCRIPT \"\" \"\"\r\nPUTSCRIPT \"" + twenty + "x\" \"\"\r\nGETSCRIPT \"\t\"\r\nDELETESCRIPT \"\u007f\"\r\n"
            + "SETACTIVE \"\u00e9\"\r\nRENAMESCRIPT \"a\" \"\"\r\nHAVESPACE \"\" 1\r\nGETSCRIPT {2+}\r\n\r\n\r\n"), SYNTAX.repeat(8));
        String text = "#" + "x".repeat(199);
        Probe.due("200 bytes", p.manage(1, "CHECKSCRIPT \"\\" + text + "\"\r\n"), OK);
        Probe.due("201 bytes", p.manage(1, "CHECKSCRIPT \"" + text + "y\"\r\n"), SYNTAX);
        Probe.due("13 and 10", p.manage(1, "CHECKSCRIPT \"#\n\"\r\nCHECKSCRIPT \"#\r#\"\r\nCHECKSCRIPT \"#\\\n\"\r\nCHECKSCRIPT \"#\r\n\"\r\n"), SYNTAX.repeat(5));
    }

    private static void literals() {
        Probe p = new Probe();
        String script = "#" + "\u0000\u00ff\r\n\r\n#".repeat(20);
        Probe.due("any bytes", p.manage(0, "CHECKSCRIPT " + Probe.literal(script) + "\r\n"), OK);
        Probe.due("2000 bytes", p.manage(0, "CHECKSCRIPT {002000+}\r\n" + " ".repeat(2000) + "\r\n"), OK);
        Probe.due("more: what is behind begins a command", p.manage(0, "CHECKSCRIPT {2001+}\r\nLOGOUT\r\n"), SYNTAX + OK);
        Probe.due("none", p.manage(0, "CHECKSCRIPT {0+}\r\n\r\n"), OK);
        Probe.due("not just so", p.manage(0, "CHECKSCRIPT {+}\r\nCHECKSCRIPT {1}\r\nCHECKSCRIPT {1+\r\nCHECKSCRIPT {1+}x\r\n"
            + "CHECKSCRIPT {1+}\r\r\nCHECKSCRIPT {0000000001+}\r\nCHECKSCRIPT {a+}\r\n"), SYNTAX.repeat(7));
        Probe.due("a 13 that ends one is no line's end", p.manage(0, "CHECKSCRIPT {1+}\r\n\r\nx\r\n"), SYNTAX);
        Probe.due("three", p.manage(0, "FOO {1+}\r\na {2+}\r\n\r\n {1+}\r\n \r\nLOGOUT\r\n"), SYNTAX + OK);
    }

    private static void otherParts() {
        Probe p = new Probe();
        Probe.due("words", p.manage(0, "FOO\r\nLISTSCRIPT\r\nLISTSCRIPTSS\r\nLISTSCRIPTSXXXXXXXXXXXXXXXXXX\r\nFOO {2+}\r\n\r\n\r\nlogOUT\r\n"),
            SYNTAX.repeat(5) + OK);
        Probe.due("parts", p.manage(0, "PUTSCRIPT\r\nPUTSCRIPT \"a\"\r\nPUTSCRIPT \"a\" 1\r\nPUTSCRIPT \"a\" \"\" \"\"\r\nCHECKSCRIPT\r\nCHECKSCRIPT 5\r\n"
            + "CHECKSCRIPT \"\" \"\"\r\nLISTSCRIPTS \"a\"\r\nLOGOUT 1\r\nSETACTIVE\r\nRENAMESCRIPT \"a\"\r\n"), SYNTAX.repeat(11));
    }

    private static void wrongBytes() {
        Probe p = new Probe();
        Probe.due("no word", p.manage(0, "\r\n LOGOUT\r\n1\r\n\"\r\n"), SYNTAX.repeat(4));
        Probe.due("blanks", p.manage(0, "LOGOUT \r\nGETSCRIPT  \"a\"\r\nGETSCRIPT\t\"a\"\r\nGETSCRIPT \"a\"x\r\nHAVESPACE \"a\" 1x\r\n"), SYNTAX.repeat(5));
        Probe.due("13 and 10 alone", p.manage(0, "LOGOUT\n\r\nLOGOUT\r\r\nLOGOUT\rLOGOUT\nLOGOUT\r\nLOGOUT\r\n"), SYNTAX.repeat(3) + OK);
        Probe.due("a fourth part", p.manage(0, "FOO 1 2 3 {6+}\r\nLOGOUT\r\n"), SYNTAX + OK);
        Probe.due("a word with a digit", p.manage(0, "LOGOUT1\r\nLOGOUT-\r\n"), SYNTAX.repeat(2));
    }

    private static void pieces() {
        Probe p = new Probe();
        String all = "PUTSCRIPT \"a\\\"\" {7+}\r\nkeep;\r\n\r\nHAVESPACE \"b\" 12\r\nFOO?\r\n";
        for (int i = 0; i < all.length(); i++) {
            p.feed(all.substring(i, i + 1));
            Probe.due("a byte", p.call().manage(i % 2, 1), 1);
            p.feed(all.substring(i, i + 1));
            Probe.due("the same to another user", p.call().manage(1 - i % 2, 1), 1);
        }
        Probe.due("byte by byte", p.replies(0), OK + OK + SYNTAX);
        Probe.due("byte by byte for another user", p.replies(1), OK + OK + SYNTAX);
    }

    private static void powerGoes() {
        Probe p = new Probe();
        p.feed("LOGO");
        p.call().manage(1, 4);
        p.manage(0, "PUTSCRIPT \"a\" \"\"\r\n");
        String[] changes = {"PUTSCRIPT \"a\" \"stop;\"\r\n", "PUTSCRIPT \"b\" \"\"\r\n", "SETACTIVE \"a\"\r\n", "DELETESCRIPT \"a\"\r\n",
            "RENAMESCRIPT \"a\" \"b\"\r\n"};
        for (String change : changes) {
            p.call().cut(1);
            String before = "LISTSCRIPTS\r\nSETACTIVE \"no\"\r\n";
            p.feed(before + change + "LOGOUT\r\n");
            Probe.due("up to " + change, p.call().manage(0, before.length() + change.length() + 8), before.length() + change.length());
            Probe.due("answers up to it", p.replies(0), "\"a\"\r\nOK\r\n" + NONE);
            Probe.due("tape", p.call().count(5), 0);
            Probe.due("start", p.call().start(), 1);
            Probe.due("not done", p.manage(0, "GETSCRIPT \"a\"\r\n"), "{0}\r\n\r\nOK\r\n");
        }
        Probe.due("half a command is gone", p.manage(1, "UT\r\n"), SYNTAX);
        p.command(0, "LOGO");
        p.command(2, "LOGO");
        p.command(3, "LOGO");
        p.call().cut(1);
        p.call().tick();
        p.call().start();
        Probe.due("of each user", p.manage(0, "UT\r\n") + p.manage(2, "UT\r\n") + p.manage(3, "UT\r\n"), SYNTAX.repeat(3));
    }
}
