/** Sessions for scripts: the edges of their commands, parts, names and answers. */
public final class SessionEdgesTest {
    private static final String SYNTAX = "NO \"syntax\"\r\n";
    private static final String OK = "OK\r\n";
    private static final String NONE = "NO \"none\"\r\n";
    private static final String SPACE = "NO \"space\"\r\n";
    private static final String ACTIVE = "NO \"active\"\r\n";
    private static final String EXISTS = "NO \"exists\"\r\n";

    public static void main(String[] args) {
        words();
        everyByte();
        partsCounted();
        partsOfCommands();
        quotedStrings();
        literals();
        literalNumbers();
        tooLargeLiterals();
        plainNumbers();
        names();
        nameBytes();
        passedOver();
        putscript();
        fifthScript();
        havespace();
        setactive();
        getscript();
        listscripts();
        deletescript();
        renamescript();
        logout();
        Probe.end("SessionEdgesTest");
    }

    private static void words() {
        Probe.sentence("a word (letters A .. Z a .. z, one or more) .. Without case; Other words .. NO \"syntax\", when the CRLF has come");
        Probe p = new Probe();
        Probe.due("without case", p.manage(0, "listSCRIPTS\r\nLogout\r\nLOGOUT\r\n"), OK.repeat(3));
        Probe.due("no letter", p.manage(0, "\r\n"), SYNTAX);
        Probe.due("one letter", p.manage(0, "A\r\nz\r\n"), SYNTAX + SYNTAX);
        Probe.due("one letter, with a part", p.manage(0, "A {8+}\r\nLOGOUT\r\n\r\nLOGOUT\r\n"), SYNTAX + OK);
        Probe.due("a letter too few or too many", p.manage(0, "LOGOU\r\nLOGOUTT\r\nOGOUT\r\nLISTSCRIPT\r\nDELETESCRIPTS \"a\"\r\nRENAMESCRIPTS \"a\" \"b\"\r\n"), SYNTAX.repeat(6));
        Probe.due("many letters", p.manage(0, "LOGOUT".repeat(100) + "\r\nLOGOUT\r\n"), SYNTAX + OK);
        Probe.due("not before the CRLF has come", p.manage(0, "FOO"), "");
        Probe.due("nor with 13", p.manage(0, "\r"), "");
        Probe.due("but with 10", p.manage(0, "\n"), SYNTAX);
    }

    private static void everyByte() {
        Probe.sentence("When bytes come with which no command goes on, all up to the next CRLF are passed over: NO \"syntax\"");
        for (int b = 0; b < 256; b++) {
            Probe p = Bench.probe(30);
            boolean letter = b >= 'A' && b <= 'Z' || b >= 'a' && b <= 'z';
            Probe.due("byte " + b + " ahead of a literal", p.manage(0, (char) b + " {8+}\r\nLOGOUT\r\n" + (letter ? "\r\n" : "")), letter ? SYNTAX : SYNTAX + OK);
            Probe.due("byte " + b + " behind a word", p.manage(0, "LOGOUT" + (char) b + "\r\nLOGOUT\r\n"), SYNTAX + OK);
            Probe.due("byte " + b + " behind a string", p.manage(0, "SETACTIVE \"\"" + (char) b + "\r\nLOGOUT\r\n"), SYNTAX + OK);
        }
    }

    private static void partsCounted() {
        Probe.sentence("at most 3 PARTS, each with one blank ahead");
        Probe p = new Probe();
        Probe.due("three", p.manage(0, "FOO 1 \"2\" {8+}\r\nLOGOUT\r\n\r\nLOGOUT\r\n"), SYNTAX + OK);
        Probe.due("a fourth", p.manage(0, "FOO 1 \"2\" 3 {8+}\r\nLOGOUT\r\n"), SYNTAX + OK);
        Probe.due("a blank behind three", p.manage(0, "FOO 1 2 3 \r\nLOGOUT\r\n"), SYNTAX + OK);
        Probe.due("two blanks", p.manage(0, "FOO  {8+}\r\nLOGOUT\r\n"), SYNTAX + OK);
        Probe.due("no blank", p.manage(0, "FOO{8+}\r\nLOGOUT\r\nSETACTIVE\"\"\r\nRENAMESCRIPT \"a\"\"b\"\r\n"), SYNTAX + OK + SYNTAX + SYNTAX);
        Probe.due("a tab", p.manage(0, "SETACTIVE\t\"\"\r\n"), SYNTAX);
        Probe.due("a blank ahead of the CRLF", p.manage(0, "LOGOUT \r\nSETACTIVE \"\" \r\n"), SYNTAX + SYNTAX);
        Probe.due("a blank ahead of the word", p.manage(0, " LOGOUT\r\n {8+}\r\nLOGOUT\r\n"), SYNTAX + SYNTAX + OK);
    }

    private static void partsOfCommands() {
        Probe.sentence("other parts .. NO \"syntax\", when the CRLF has come");
        String[] words = {"PUTSCRIPT", "CHECKSCRIPT", "HAVESPACE", "SETACTIVE", "GETSCRIPT", "LISTSCRIPTS", "DELETESCRIPT", "RENAMESCRIPT", "LOGOUT"};
        String[] right = {" \"n\" \"\"", " \"\"", " \"n\" 1", " \"n\"", " \"n\"", "", " \"n\"", " \"n\" \"m\"", ""};
        String[] parts = {"", " \"n\"", " 1", " \"n\" \"m\"", " \"n\" 1", " 1 \"n\"", " 1 1", " \"n\" \"m\" \"o\"", " \"n\" 1 1", " 1 1 1", " \"\" \"\""};
        for (int w = 0; w < words.length; w++) {
            for (String part : parts) {
                boolean fits = shape(part).equals(shape(right[w])) && !(part.equals(" \"\" \"\""));
                Probe p = new Probe();
                String answer = p.manage(0, words[w] + part + "\r\n");
                Probe.due(words[w] + part, answer.equals(SYNTAX), !fits);
                Probe.due("no commit of " + words[w] + part, p.call().count(4), 0);
            }
        }
    }

    /** A letter for each part: s for a string, n for a number. */
    private static String shape(String parts) {
        return parts.replaceAll("\"[a-z]*\"", "s").replace("1", "n");
    }

    private static void quotedStrings() {
        Probe.sentence("a STRING: \" \" with \\ as above, at most 200 bytes, without 13 and 10");
        Probe p = new Probe();
        String text = "#" + "x".repeat(199);
        Probe.due("200 bytes", p.manage(0, "PUTSCRIPT \"a\" \"" + text + "\"\r\nGETSCRIPT \"a\"\r\n"), OK + "{200}\r\n" + text + "\r\nOK\r\n");
        Probe.due("201 bytes", p.manage(0, "PUTSCRIPT \"a\" \"" + text + "y\"\r\nLOGOUT\r\n"), SYNTAX + OK);
        Probe.due("200 bytes, each with \\", p.manage(1, "CHECKSCRIPT \"" + "\\#".repeat(200) + "\"\r\n"), OK);
        Probe.due("201 bytes, the last one with \\", p.manage(1, "CHECKSCRIPT \"" + text + "\\y\"\r\nLOGOUT\r\n"), SYNTAX + OK);
        Probe.due("none", p.manage(1, "CHECKSCRIPT \"\"\r\n"), OK);
        Probe.due("\\ for any byte", p.manage(2, "PUTSCRIPT \"a\" \"#\\\"\\\\\\a\\\u00ff\\\u0000\"\r\nGETSCRIPT \"a\"\r\n"), OK + "{6}\r\n#\"\\a\u00ff\u0000\r\nOK\r\n");
        String[] ends = {"\n", "\r", "\\\n", "\\\r", "\r\n", "\\\r\n"};
        for (String end : ends) {
            String due = end.endsWith("\r\n") ? SYNTAX + SYNTAX : SYNTAX;
            Probe.due("13 or 10", p.manage(3, "CHECKSCRIPT \"#" + end + "\"\r\nLOGOUT\r\n"), due + OK);
        }
        Probe.due("not closed", p.manage(3, "CHECKSCRIPT \"#\r\nLOGOUT\r\n"), SYNTAX + OK);
        Probe.due("of 200 bytes, not closed", p.manage(3, "CHECKSCRIPT \"" + text + "\r\nLOGOUT\r\n"), SYNTAX + OK);
    }

    private static void literals() {
        Probe.sentence("or { digits +} CRLF and so many bytes, at most 2000");
        Probe p = new Probe();
        Probe.due("none", p.manage(0, "CHECKSCRIPT {0+}\r\n\r\nSETACTIVE {0+}\r\n\r\n"), OK + OK);
        Probe.due("one", p.manage(0, "CHECKSCRIPT {1+}\r\n#\r\n"), OK);
        Probe.due("13 10 among them", p.manage(0, "PUTSCRIPT {1+}\r\na {6+}\r\n\r\n#\r\n#\r\nGETSCRIPT {1+}\r\na\r\n"), OK + "{6}\r\n\r\n#\r\n#\r\nOK\r\n");
        Probe.due("one byte too few: it takes the 13", p.manage(0, "CHECKSCRIPT {3+}\r\n##\r\nLOGOUT\r\nLOGOUT\r\n"), SYNTAX + OK);
        Probe.due("one byte too many", p.manage(0, "CHECKSCRIPT {1+}\r\n##\r\nLOGOUT\r\n"), SYNTAX + OK);
        Probe.due("not before its CRLF has come", p.manage(0, "CHECKSCRIPT {2+}\r\n##"), "");
        Probe.due("then", p.manage(0, "\r\n"), OK);
        Probe.due("2000 bytes", p.manage(1, "PUTSCRIPT \"a\" {2000+}\r\n#" + "x".repeat(1999) + "\r\nHAVESPACE \"a\" 1\r\n"), OK + OK);
    }

    private static void literalNumbers() {
        Probe.sentence("{ digits +}: a NUMBER, of 1 .. 9 digits (as between { and +)");
        Probe p = new Probe();
        Probe.due("nine digits", p.manage(0, "CHECKSCRIPT {000000001+}\r\n#\r\n"), OK);
        String[] wrong = {"{+}", "{0000000001+}", "{1}", "{1+", "{1 +}", "{1+ }", "{+1+}", "{-1+}", "{1++}", "{1+}}", "{x+}", "{1+}x", "{", "{1", "1+}", "{1.0+}"};
        for (String head : wrong) {
            Probe.due(head, p.manage(0, "CHECKSCRIPT " + head + "\r\nLOGOUT\r\n"), SYNTAX + OK);
        }
        Probe.due("13 alone behind it", p.manage(0, "CHECKSCRIPT {1+}\r#\r\nCHECKSCRIPT {1+}\r\r\n#\r\nLOGOUT\r\n"), SYNTAX.repeat(3) + OK);
        Probe.due("10 alone behind it", p.manage(0, "CHECKSCRIPT {1+}\n#\r\nLOGOUT\r\n"), SYNTAX + OK);
    }

    private static void tooLargeLiterals() {
        Probe.sentence("A number above 2000 in { +}: NO \"syntax\" when its CRLF has come; what comes behind that begins a command");
        String[] numbers = {"2001", "002001", "999999999", "65536", "10000"};
        Probe p = new Probe();
        for (String number : numbers) {
            Probe.due(number, p.manage(0, "CHECKSCRIPT {" + number + "+}\r\nLOGOUT\r\n"), SYNTAX + OK);
        }
        Probe.due("not before its CRLF has come", p.manage(0, "CHECKSCRIPT {2001+}"), "");
        Probe.due("nor with 13", p.manage(0, "\r"), "");
        Probe.due("but with 10", p.manage(0, "\n"), SYNTAX);
        Probe.due("the next command", p.manage(0, "LOGOUT\r\n"), OK);
        Probe.due("in a later part", p.manage(0, "PUTSCRIPT \"a\" {2001+}\r\nFOO 1 2 {2001+}\r\nFOO \"a\" {2000+}\r\n" + "x".repeat(2000) + "\r\nLOGOUT\r\n"), SYNTAX.repeat(3) + OK);
        Probe.due("no script", p.call().count(10), 0);
    }

    private static void plainNumbers() {
        Probe.sentence("or a NUMBER, of 1 .. 9 digits");
        String[] taken = {"0", "9", "000000000", "000002000", "2000"};
        String[] wrong = {"0000000000", "1234567890", "2147483648", "4294967296", "-1", "+1", "1x", "x1", "1.0", "1K", "0x1", "\"1\"", "{1+}\r\n1"};
        Probe p = new Probe();
        for (String number : taken) {
            Probe.due(number, p.manage(0, "HAVESPACE \"a\" " + number + "\r\n"), OK);
        }
        for (String number : wrong) {
            Probe.due(number, p.manage(0, "HAVESPACE \"a\" " + number + "\r\nLOGOUT\r\n"), SYNTAX + OK);
        }
    }

    private static void names() {
        Probe.sentence("NAMES of scripts: 1 .. 20 bytes 32 .. 126 (compared as they are); a name that is none: NO \"syntax\"");
        String twenty = "n".repeat(20);
        Probe p = new Probe();
        Probe.due("1 and 20 bytes", p.manage(0, "PUTSCRIPT \"a\" \"\"\r\nPUTSCRIPT \"" + twenty + "\" \"\"\r\n"), OK + OK);
        String[] wrong = {"", twenty + "n", twenty + twenty, "\u001f", "a\u007f", "\u0080", "\u00ff", "a\tb"};
        for (String name : wrong) {
            String quoted = "\"" + name + "\"";
            Probe.due("name " + name, p.manage(0, "PUTSCRIPT " + quoted + " \"\"\r\nGETSCRIPT " + quoted + "\r\nDELETESCRIPT " + quoted + "\r\nHAVESPACE " + quoted + " 1\r\nRENAMESCRIPT \"a\" " + quoted
                + "\r\nRENAMESCRIPT " + quoted + " \"a\"\r\n"), SYNTAX.repeat(6));
        }
        Probe.due("SETACTIVE, too", p.manage(0, "SETACTIVE \"" + twenty + "n\"\r\nSETACTIVE \"\u007f\"\r\n"), SYNTAX + SYNTAX);
        Probe.due("as they are", p.manage(0, "GETSCRIPT \"A\"\r\nGETSCRIPT \"a \"\r\nGETSCRIPT \" a\"\r\nPUTSCRIPT \"A\" \"\"\r\nPUTSCRIPT \"a \" \"\"\r\n"), NONE.repeat(3) + OK + OK);
        Probe.due("four of them", p.call().count(10), 4);
    }

    private static void nameBytes() {
        Probe.sentence("NAMES of scripts: .. bytes 32 .. 126");
        for (int b = 0; b < 256; b++) {
            Probe p = Bench.probe(30);
            Probe.due("byte " + b, p.manage(0, "GETSCRIPT {2+}\r\na" + (char) b + "\r\n"), b >= 32 && b <= 126 ? NONE : SYNTAX);
        }
    }

    private static void passedOver() {
        Probe.sentence("all up to the next CRLF are passed over");
        Probe p = new Probe();
        Probe.due("a 13 or 10 alone ends nothing", p.manage(0, "?\rLOGOUT\nLOGOUT\n\rLOGOUT\r\nLOGOUT\r\n"), SYNTAX + OK);
        Probe.due("13 13 10", p.manage(0, "?\r\r\nLOGOUT\r\n"), SYNTAX + OK);
        Probe.due("13 as the byte", p.manage(0, "LOGOUT \r\nLOGOUT\r\n"), SYNTAX + OK);
        Probe.due("13, then another", p.manage(0, "LOGOUT\rX\r\nLOGOUT\r\n"), SYNTAX + OK);
        Probe.due("13 13 10 behind a word", p.manage(0, "LOGOUT\r\r\nLOGOUT\r\n"), SYNTAX + OK);
        Probe.due("no answer before the CRLF", p.manage(0, "?" + "x".repeat(300)), "");
        Probe.due("with 13", p.manage(0, "\r"), "");
        Probe.due("with 10", p.manage(0, "\nLOGOUT\r\n"), SYNTAX + OK);
    }

    private static void putscript() {
        Probe.sentence("PUTSCRIPT name string: NO \"line n\", if the script has a fault there; .. OK: it is there, in the place of one of that name");
        Probe p = new Probe();
        p.refused("a fault", () -> p.manage(0, "PUTSCRIPT \"a\" {5+}\r\n\n\nfoo\r\n"), "NO \"line 3\"\r\n");
        Probe.due("put", p.manage(0, "PUTSCRIPT \"a\" \"keep;\"\r\nPUTSCRIPT \"b\" \"\"\r\n"), OK + OK);
        p.refused("a fault, of a name that is there", () -> p.manage(0, "PUTSCRIPT \"a\" \"foo\"\r\n"), "NO \"line 1\"\r\n");
        Probe.due("the old one stays", p.manage(0, "GETSCRIPT \"a\"\r\n"), "{5}\r\nkeep;\r\nOK\r\n");
        Probe.due("in its place", p.manage(0, "PUTSCRIPT \"a\" \"stop;\"\r\nLISTSCRIPTS\r\nGETSCRIPT \"a\"\r\n"), OK + "\"a\"\r\n\"b\"\r\nOK\r\n{5}\r\nstop;\r\nOK\r\n");
        Probe.due("a shorter one", p.manage(0, "PUTSCRIPT \"a\" \"\"\r\nGETSCRIPT \"a\"\r\n"), OK + "{0}\r\n\r\nOK\r\n");
        Probe.due("two scripts, four commits", p.call().count(10) * 10 + p.call().count(4), 24);
        p.refused("CHECKSCRIPT", () -> p.manage(0, "CHECKSCRIPT \"keep;\"\r\nCHECKSCRIPT \"foo\"\r\n"), OK + "NO \"line 1\"\r\n");
    }

    private static Probe withFour() {
        Probe p = new Probe();
        Probe.due("four", p.manage(0, "PUTSCRIPT \"a\" \"\"\r\nPUTSCRIPT \"b\" \"\"\r\nPUTSCRIPT \"c\" \"\"\r\nPUTSCRIPT \"d\" \"\"\r\n"), OK.repeat(4));
        return p;
    }

    private static void fifthScript() {
        Probe.sentence("NO \"space\", if it would be the fifth one");
        Probe p = withFour();
        p.refused("a fifth one", () -> p.manage(0, "PUTSCRIPT \"e\" \"\"\r\n"), SPACE);
        p.refused("a fault is told first", () -> p.manage(0, "PUTSCRIPT \"e\" \"foo\"\r\n"), "NO \"line 1\"\r\n");
        Probe.due("no fifth one is there", p.manage(0, "GETSCRIPT \"e\"\r\nLISTSCRIPTS\r\n"), NONE + "\"a\"\r\n\"b\"\r\n\"c\"\r\n\"d\"\r\nOK\r\n");
        Probe.due("one of the four", p.manage(0, "PUTSCRIPT \"d\" \"keep;\"\r\n"), OK);
        Probe.due("behind a deleted one", p.manage(0, "DELETESCRIPT \"a\"\r\nPUTSCRIPT \"e\" \"\"\r\nPUTSCRIPT \"a\" \"\"\r\n"), OK + OK + SPACE);
        Probe.due("another user's", p.manage(1, "PUTSCRIPT \"e\" \"\"\r\n"), OK);
    }

    private static void havespace() {
        Probe.sentence("HAVESPACE name number: OK, or NO \"space\" (above 2000, or it would be a fifth one)");
        Probe p = withFour();
        Probe.due("2000, 2001, of one that is there", p.manage(0, "HAVESPACE \"d\" 0\r\nHAVESPACE \"d\" 2000\r\nHAVESPACE \"d\" 2001\r\nHAVESPACE \"d\" 999999999\r\n"), OK + OK + SPACE + SPACE);
        Probe.due("a fifth one", p.manage(0, "HAVESPACE \"e\" 0\r\nHAVESPACE \"e\" 2001\r\n"), SPACE + SPACE);
        Probe.due("2000, 2001, of a first one", p.manage(1, "HAVESPACE \"e\" 2000\r\nHAVESPACE \"e\" 2001\r\n"), OK + SPACE);
        p.manage(0, "DELETESCRIPT \"a\"\r\n");
        Probe.due("a fourth one", p.manage(0, "HAVESPACE \"e\" 2000\r\n"), OK);
        p.refused("no change", () -> p.manage(0, "HAVESPACE \"e\" 1\r\n"), OK);
    }

    private static void setactive() {
        Probe.sentence("SETACTIVE name (\"\" for none): NO \"none\" without such; OK");
        Probe p = new Probe();
        p.refused("without any", () -> p.manage(0, "SETACTIVE \"a\"\r\n"), NONE);
        Probe.due("none, though there is none", p.manage(0, "SETACTIVE \"\"\r\n"), OK);
        p.manage(0, "PUTSCRIPT \"a\" \"\"\r\nPUTSCRIPT \"b\" \"\"\r\n");
        Probe.due("the second one", p.manage(0, "SETACTIVE \"b\"\r\nLISTSCRIPTS\r\n"), OK + "\"a\"\r\n\"b\" ACTIVE\r\nOK\r\n");
        p.refused("without such", () -> p.manage(0, "SETACTIVE \"B\"\r\n"), NONE);
        Probe.due("it stays so", p.manage(0, "LISTSCRIPTS\r\n"), "\"a\"\r\n\"b\" ACTIVE\r\nOK\r\n");
        Probe.due("the first one", p.manage(0, "SETACTIVE \"a\"\r\nSETACTIVE \"a\"\r\nLISTSCRIPTS\r\n"), OK + OK + "\"a\" ACTIVE\r\n\"b\"\r\nOK\r\n");
        Probe.due("none", p.manage(0, "SETACTIVE \"\"\r\nSETACTIVE \"\"\r\nLISTSCRIPTS\r\n"), OK + OK + "\"a\"\r\n\"b\"\r\nOK\r\n");
        Probe.due("each is a commit", p.call().count(4), 8);
    }

    private static void getscript() {
        Probe.sentence("GETSCRIPT name: { bytes } (no blanks between) CRLF, the script, CRLF, OK; or NO \"none\"");
        int[] sizes = {0, 1, 9, 10, 11, 99, 100, 101, 999, 1000, 1001};
        for (int size : sizes) {
            Probe p = new Probe();
            String script = "#".repeat(size);
            Probe.due(size + " bytes", p.manage(0, "PUTSCRIPT \"a\" " + Probe.literal(script) + "\r\nGETSCRIPT \"a\"\r\n"), OK + "{" + size + "}\r\n" + script + "\r\nOK\r\n");
        }
        Probe p = new Probe();
        Probe.due("none", p.manage(0, "GETSCRIPT \"a\"\r\n"), NONE);
        p.manage(1, "PUTSCRIPT \"a\" \"\"\r\n");
        Probe.due("another user's", p.manage(0, "GETSCRIPT \"a\"\r\n"), NONE);
        String all = "{2000}\r\n#" + "x".repeat(1999) + "\r\nOK\r\n";
        Probe big = new Probe();
        Probe.due("2000 bytes", big.manage(0, "PUTSCRIPT \"a\" {2000+}\r\n#" + "x".repeat(1999) + "\r\nGETSCRIPT \"a\"\r\n"), OK + all);
    }

    private static void listscripts() {
        Probe.sentence("LISTSCRIPTS: a line for each, in the order in which they first came, its name in \" \" (\\ ahead of \" and \\), behind that of the active one a blank and ACTIVE; OK");
        Probe p = new Probe();
        Probe.due("none", p.manage(0, "LISTSCRIPTS\r\n"), OK);
        Probe.due("signs", p.manage(0, "PUTSCRIPT \"\\\"\\\\\" \"\"\r\nPUTSCRIPT {3+}\r\n\"a\\ \"\"\r\nSETACTIVE \"\\\"a\\\\\"\r\nLISTSCRIPTS\r\n"), OK.repeat(3) + "\"\\\"\\\\\"\r\n\"\\\"a\\\\\" ACTIVE\r\nOK\r\n");
        Probe q = withFour();
        Probe.due("order", q.manage(0, "PUTSCRIPT \"b\" \"\"\r\nDELETESCRIPT \"a\"\r\nRENAMESCRIPT \"c\" \"z\"\r\nPUTSCRIPT \"a\" \"\"\r\nLISTSCRIPTS\r\n"),
            OK.repeat(4) + "\"b\"\r\n\"z\"\r\n\"d\"\r\n\"a\"\r\nOK\r\n");
    }

    private static void deletescript() {
        Probe.sentence("DELETESCRIPT name: NO \"none\", NO \"active\", OK");
        Probe p = withFour();
        p.manage(0, "SETACTIVE \"b\"\r\n");
        p.refused("none", () -> p.manage(0, "DELETESCRIPT \"x\"\r\n"), NONE);
        p.refused("active", () -> p.manage(0, "DELETESCRIPT \"b\"\r\n"), ACTIVE);
        Probe.due("the others", p.manage(0, "DELETESCRIPT \"a\"\r\nDELETESCRIPT \"d\"\r\nDELETESCRIPT \"a\"\r\nLISTSCRIPTS\r\n"), OK + OK + NONE + "\"b\" ACTIVE\r\n\"c\"\r\nOK\r\n");
        Probe.due("no longer active", p.manage(0, "SETACTIVE \"c\"\r\nDELETESCRIPT \"b\"\r\nSETACTIVE \"\"\r\nDELETESCRIPT \"c\"\r\nLISTSCRIPTS\r\n"), OK.repeat(5));
        Probe.due("none is left", p.call().count(10), 0);
    }

    private static void renamescript() {
        Probe.sentence("RENAMESCRIPT name name: NO \"none\", NO \"exists\" (also of its own name); OK (it keeps its place)");
        Probe p = withFour();
        p.manage(0, "SETACTIVE \"b\"\r\n");
        p.refused("none", () -> p.manage(0, "RENAMESCRIPT \"x\" \"y\"\r\n"), NONE);
        p.refused("none, ahead of exists", () -> p.manage(0, "RENAMESCRIPT \"x\" \"a\"\r\n"), NONE);
        p.refused("exists", () -> p.manage(0, "RENAMESCRIPT \"a\" \"b\"\r\n"), EXISTS);
        p.refused("its own name", () -> p.manage(0, "RENAMESCRIPT \"a\" \"a\"\r\n"), EXISTS);
        Probe.due("its own name in other letters", p.manage(0, "RENAMESCRIPT \"a\" \"A\"\r\n"), OK);
        Probe.due("the active one, to 20 bytes", p.manage(0, "RENAMESCRIPT \"b\" \"" + "n".repeat(20) + "\"\r\nLISTSCRIPTS\r\n"),
            OK + "\"A\"\r\n\"" + "n".repeat(20) + "\" ACTIVE\r\n\"c\"\r\n\"d\"\r\nOK\r\n");
        Probe.due("the old name is free", p.manage(0, "RENAMESCRIPT \"c\" \"b\"\r\nGETSCRIPT \"c\"\r\n"), OK + NONE);
    }

    private static void logout() {
        Probe.sentence("LOGOUT: OK, and all bytes of a command that has begun are forgotten. Each user has one (session), always open");
        Probe p = new Probe();
        p.refused("LOGOUT", () -> p.manage(0, "LOGOUT\r\n"), OK);
        Probe.due("open still", p.manage(0, "LISTSCRIPTS\r\nLOGOUT\r\nLISTSCRIPTS\r\n"), OK.repeat(3));
        p.command(1, "LOGO");
        Probe.due("another user's", p.manage(0, "LOGOUT\r\n"), OK);
        Probe.due("command goes on", p.manage(1, "UT\r\n"), OK);
    }
}
