/** Scripts: the edges of their tokens, and the lines of their faults. */
public final class TokenEdgesTest {
    private static final String REJECT = "require \"reject\";\nreject ";

    public static void main(String[] args) {
        scriptBytes();
        everyByte();
        between();
        hashComments();
        starComments();
        wordEnds();
        numbers();
        quotedStrings();
        textLengths();
        textLines();
        textHeads();
        lines();
        theEnd();
        nothingLeftBehind();
        manyScripts();
        Probe.end("TokenEdgesTest");
    }

    private static void scriptBytes() {
        Probe.sentence("At most 2000 bytes");
        Bench.fine("", "#" + "x".repeat(1999), " ".repeat(1995) + "keep;");
        Bench.fault("\n".repeat(1999) + "x", 2000);
        Bench.fault("\n".repeat(1995) + "keep\n", 1997);
        Probe p = new Probe();
        Probe.due("2001 bytes", p.manage(0, "PUTSCRIPT \"a\" {2001+}\r\nLISTSCRIPTS\r\n"), "NO \"syntax\"\r\nOK\r\n");
        Probe.due("2000 bytes stay", p.manage(0, "PUTSCRIPT \"a\" {2000+}\r\n#" + "y".repeat(1999) + "\r\nHAVESPACE \"a\" 2000\r\n"), "OK\r\nOK\r\n");
    }

    private static void everyByte() {
        Probe.sentence("a byte at which no token stands .. (its first byte)");
        for (int b = 0; b < 256; b++) {
            boolean skipped = b == 9 || b == 10 || b == 13 || b == 32 || b == '#';
            Bench.fault("keep;\n" + (char) b, skipped ? 0 : 2);
            Bench.fault("keep\n" + (char) b + ";", skipped && b != '#' ? 0 : 2);
        }
    }

    private static void between() {
        Probe.sentence("Between tokens: 9, 10, 13, 32");
        Bench.fine("\t\n\r keep\t\n\r ;\t\n\r ", "\r\rkeep\r;\r", "if\ttrue\n{\r}", "if true{}else{}", "if not true{}", "\t".repeat(500));
        int[] others = {0, 8, 11, 12, 14, 31, 33, 127, 128, 160, 255};
        for (int b : others) {
            Bench.fault("keep\n" + (char) b + "\n;", 2);
        }
        Bench.fault("ifnot true{}", 1);
        Bench.fault("if nottrue{}", 1);
    }

    private static void hashComments() {
        Probe.sentence("comments from # up to 10 (or the end)");
        Bench.fine("#", "##", "#\n", "# \t\u000b\r\u00ff\u0000", "#a\nkeep;#b\n#c", "keep#;\n;", "#/*\nkeep;", "#\"\nkeep;");
        Bench.fault("#\nfoo;", 2);
        Bench.fault("# a\tb\u000bfoo;\rfoo;\nfoo;", 2);
        Bench.fault("keep#\n", 2);
        Bench.fault("keep#;", 1);
        Bench.fault("#*/\n\n*/", 3);
    }

    private static void starComments() {
        Probe.sentence("and from / and * to the next * and /; a comment that .. has no end (its first byte)");
        Bench.fine("/**/", "/***/", "/****/", "/*/*/", "/* \" */keep;", "/*\n#*/keep;", "keep/**/;", "/**//**/", "/*" + "x".repeat(1996) + "*/");
        String[] unended = {"/*", "/*/", "/**", "/* *", "/* * /", "/*\n\n", "/*" + "x".repeat(300)};
        for (String comment : unended) {
            Bench.fault(comment, 1);
            Bench.fault("keep;\n" + comment, 2);
            Bench.fault("keep\n" + comment, 2);
        }
        Bench.fault("/*/**/*/", 1);
        Bench.fault("/*\n*/\n*/", 3);
        Bench.fault("/", 1);
        Bench.fault("/ *\n*/", 1);
    }

    private static void wordEnds() {
        Probe.sentence("A word or number has no letter, digit or _ behind it");
        String[] behind = {"x", "K", "0", "9", "_"};
        for (String sign : behind) {
            Bench.fault("\nkeep" + sign + ";", 2);
            Bench.fault("if size :over\n5K" + sign + "{}", 2);
            Bench.fault("if header\n:is" + sign + " \"a\" \"b\"{}", 2);
        }
        Bench.fine("if size :over 5{}", "if size :over 5k{}", "if size:over 5M#\n{}", "if header:is\"a\"\"b\"{}", "if size :over 5/**/{}");
        String[] behindNumber = {"x", "_", "KK", "k1", "Gb", "K_"};
        for (String sign : behindNumber) {
            Bench.fault("if size :over\n5" + sign + "{}", 2);
        }
        Bench.fault("if size :over 5 K{}", 1);
    }

    private static void numbers() {
        Probe.sentence("NUMBERS: digits and perhaps K, M or G (without case; times 2 ^ 10, 20, 30), up to 2147483647");
        String[] taken = {"0", "2147483647", "0002147483647", "0".repeat(50) + "1", "2097151K", "2097151k", "2047M", "2047m", "1G", "1g", "0G", "000G"};
        String[] tooGreat = {"2147483648", "2097152K", "2048M", "2G", "2g", "4G", "4096M", "4194304K", "4294967296", "4294967295", "9999999999", "9223372036854775807",
            "9223372036854775808", "18446744073709551615", "18446744073709551616", "18446744073709551617", "17179869184G", "8589934592G", "9".repeat(60), "9".repeat(60) + "K"};
        for (String number : taken) {
            Bench.fault("if size :over " + number + "{}", 0);
        }
        for (String number : tooGreat) {
            Bench.fault("if size :over\n" + number + "{}", 2);
        }
        String message = "x".repeat(1022) + "\r\n";
        Bench.holds("size :over 1K", message, false);
        Bench.holds("size :under 1k", message, false);
        Bench.holds("size :over 1K", "x" + message, true);
        Bench.holds("size :under 1K", message.substring(1), true);
        Bench.holds("size :under 1M", message, true);
        Bench.holds("size :over 0G", message, true);
    }

    private static void quotedStrings() {
        Probe.sentence("STRINGS: in \" \", where \\ stands for the byte behind it, which may be any, as all between (a line's end, too), at most 200 bytes as they are meant");
        Bench.fine("if exists \"\"{}", "if exists \"" + "x".repeat(200) + "\"{}", "if exists \"" + "\\\"".repeat(200) + "\"{}", "if exists \"" + "\n".repeat(200) + "\"{}",
            "if exists \"" + "x".repeat(199) + "\\\\\"{}");
        Bench.fault("if exists\n\"" + "x".repeat(201) + "\"{}", 2);
        Bench.fault("if exists\n\"" + "\\x".repeat(201) + "\"{}", 2);
        Bench.fault("if exists\n\"" + "\n".repeat(201) + "\"{}", 2);
        Bench.fault("if exists\n\"", 2);
        Bench.fault("if exists\n\"x", 2);
        Bench.fault("if exists\n\"\\", 2);
        Bench.fault("if exists\n\"x\\\"", 2);
        Bench.fault("if exists\n\"" + "x".repeat(200), 2);
        Bench.fault("if exists\n\"" + "x".repeat(200) + "\\", 2);
        Bench.holds("header \"a\" \"\\1\\\\\\\"\\\u00ff\"", "a: 1\\\"\u00ff\r\n", true);
        Bench.holds("header \"a\" \"1\r\n2\"", "a: 1\r\n2\r\n", false);
        Bench.holds("header \"a\" \"1\n2\\\n3\"", "a: 1\n2\n3\r\n", true);
    }

    private static void textLengths() {
        Probe.sentence("at most 1000 bytes as they are meant");
        String[] taken = {"", "\n", "x".repeat(999) + "\n", "x".repeat(998) + "\r\n", ".." + "x".repeat(998) + "\n", "\n".repeat(1000), "x".repeat(499) + "\n" + "y".repeat(499) + "\n"};
        String[] tooLong = {"x".repeat(1000) + "\n", "x".repeat(999) + "\r\n", ".." + "x".repeat(999) + "\n", "\n".repeat(1001), "x".repeat(499) + "\n" + "y".repeat(500) + "\n",
            ".x" + "x".repeat(998) + "\n"};
        for (String text : taken) {
            Bench.fault(REJECT + "text:\n" + text + ".\n;", 0);
        }
        for (String text : tooLong) {
            Bench.fault(REJECT + "text:\n" + text + ".\n;", 2);
        }
    }

    private static void textLines() {
        Probe.sentence("then lines up to one that is . alone, each with its end, a first . left out before another one");
        String[] raw = {"", "\n", "\r\n", "a\r\nb\n", "..\n", "...\r\n", ".a\n", ". \n", " .\n", "a.\n", ".\r\r\n", ".\ra\n", "..a\n.\r.\n", "\r.\n", "\u0000\u00ff\"\\;#/*\n"};
        String[] meant = {"", "\n", "\r\n", "a\r\nb\n", ".\n", "..\r\n", ".a\n", ". \n", " .\n", "a.\n", ".\r\r\n", ".\ra\n", ".a\n.\r.\n", "\r.\n", "\u0000\u00ff\"\\;#/*\n"};
        for (int i = 0; i < raw.length; i++) {
            Probe p = new Probe();
            p.activate(0, REJECT + "text:\n" + raw[i] + (i % 2 == 0 ? ".\n;" : ".\r\n;"));
            p.greet();
            p.send("<x@y>", "anna@here", "");
            Probe.due("text " + raw[i], p.bytes(0), "To: x@y\r\nSubject: Refused\r\n\r\n" + meant[i] + "\r\n");
        }
        String[] unended = {"text:\n", "text:\na", "text:\na\n", "text:\na.\n", "text:\n..\n", "text:\n. \n;", "text:\na\r.\r\n"};
        for (String text : unended) {
            Bench.fault(REJECT + text, 2);
        }
    }

    private static void textHeads() {
        Probe.sentence("or text: (without case), blanks and tabs, a LINE'S END (10, or 13 10)");
        String[] taken = {"text:\n", "TEXT:\r\n", "tExT: \t \n", "text:\t\r\n"};
        for (String head : taken) {
            Bench.fault(REJECT + head + "a\n.\n;", 0);
        }
        String[] wrong = {"text\n", "text\n\n", "text;\n", "text :\n", "texts:\n", "tex:\n", "foo:\n", "text:\r", "text:\r\r\n", "text: x\n", "text:#\n", "text:\u000b\n", "_text:\n", "text"};
        for (String head : wrong) {
            Bench.fault(REJECT + head + "a\n.\n;", 2);
        }
        Bench.fine(REJECT + "text:\n.\n;", REJECT + "text:\n.\n#\n;", REJECT + "text:\n.\r\n ;");
        Bench.fault(REJECT + "text:\n.\n.\n;", 4);
    }

    private static void lines() {
        Probe.sentence("its LINE (1 and how many 10 stand before it) is told");
        Bench.fault("foo", 1);
        Bench.fault("\rfoo", 1);
        Bench.fault("\r\nfoo", 2);
        Bench.fault("\n\rfoo", 2);
        int[] lines = {9, 10, 11, 99, 100, 101, 999, 1000, 1001, 1900};
        for (int line : lines) {
            Bench.fault("\n".repeat(line - 1) + "foo\n\n", line);
        }
        Bench.fault("/*\n*/#\n\"\n\"", 3);
        Bench.fault("if exists \"\n\n\"foo", 3);
        Bench.fault(REJECT + "text:\n\n.\nfoo", 5);
    }

    private static void theEnd() {
        Probe.sentence("a token with which no script goes on, or the end");
        String[] begun = {"require", "require \"copy\"", "require [", "require [\"copy\"", "require [\"copy\",", "keep", "if", "if true", "if true{", "if true{}else", "if true{}elsif",
            "if not", "if allof", "if allof(", "if allof(true", "if allof(true,", "if size", "if size :over", "if size :over 5", "if header", "if header :is", "if header :comparator",
            "if header \"a\"", "if header \"a\" \"b\"", "redirect", "redirect \"a@b\"", "stop", "discard"};
        for (String script : begun) {
            Bench.fault(script, 1);
            Bench.fault(script + "\n\n", 3);
            Bench.fault(script + " # x\n", 2);
        }
    }

    private static void nothingLeftBehind() {
        Probe.sentence("A script is its own bytes: none of one that was longer is seen behind its end");
        String[] scripts = {"/* */", "if exists \"ab\"{}", "if exists \"a\nb\\\"\"{}", "if size :over 55{}", "keep;", "if true{}else{}", "require \"reject\";reject text:\r\na\r\n.\r\n;"};
        for (String script : scripts) {
            for (int size = 0; size < script.length(); size++) {
                Probe fresh = new Probe();
                int line = fresh.faultOf(script.substring(0, size));
                Bench.fault(script, 0);
                Bench.fault(script.substring(0, size), line);
            }
        }
        Bench.fault("", 0);
        Bench.fault("/*", 1);
    }

    private static void manyScripts() {
        Probe.sentence("FAULTS: the same ones of every script, however many came before");
        Probe next = new Probe();
        next.command(0, "CHECKSCRIPT \"if allof(not\"\r\n".repeat(180));
        next.command(0, "PUTSCRIPT \"a\" \"if allof(not false){discard;}\"\r\nSETACTIVE \"a\"\r\n");
        next.call().connect();
        next.post("LHLO x\r\nMAIL FROM:<>\r\nRCPT TO:<anna@here>\r\nDATA\r\n.\r\n");
        Probe.due("one that is fine is put", next.call().count(10), 1);
        Probe.due("and runs", next.call().count(0) * 10 + next.call().count(4), 3);
    }
}
