/** Promise 5: the faults of scripts, and their lines. */
public final class FaultsTest {
    private static final String ALL = "require [\"fileinto\",\"reject\",\"envelope\",\"copy\",\"imap4flags\",\"relational\",\"vacation\","
        + "\"comparator-i;ascii-numeric\"];";
    private static Probe probe = new Probe();
    private static int asked = 0;

    public static void main(String[] args) {
        tokens();
        numbers();
        strings();
        texts();
        grammar();
        required();
        tags();
        askedFor();
        limits();
        lines();
        Probe.end("FaultsTest");
    }

    private static void due(String script, int line) {
        // A new object before its calls run out.
        asked += 10 + script.length() / 20;
        if (asked > 400) {
            probe = new Probe();
            asked = 10 + script.length() / 20;
        }
        Probe.due(script, probe.faultOf(script), line);
    }

    private static void fine(String... scripts) {
        for (String script : scripts) {
            due(script, 0);
        }
    }

    /** Each has its fault in the second line. */
    private static void wrong(String... scripts) {
        for (String script : scripts) {
            due(ALL + "\n" + script, 2);
        }
    }

    private static void tokens() {
        fine("", " \t\r\n", "#", "# x", "#\n", "/**/", "/* \n * / */", "/*/ */", "KEEP;Stop ;\tdiscard\n;", "if/**/true{}#\nelsif/* */false{}", "keep;#\u00e9",
            "/*#*/keep;");
        wrong("?", "/", "/ *", "/*", "/* *", "/*/", "keep\u0000;", "keep;\u00e9", ":", "keep :;", "keep : flags;", "*/", "_", "text:;", "keep;'");
    }

    private static void numbers() {
        fine("if size :over 0{}", "if size :over 2147483647{}", "if size :over 00000000000000000000012{}", "if size :over 2097151k{}", "if size :over 2047M{}",
            "if size :over 1G{}", "if size:under 5 {}", "IF SIZE:UNDER 5M {STOP;}");
        wrong("if size :over 2147483648{}", "if size :over 2097152K{}", "if size :over 2048m{}", "if size :over 2g{}", "if size :over 5Kb{}", "if size :over 5_{}",
            "if size :over 5x{}", "if size :over 5K5{}", "if size :over 99999999999999999999{}", "if size :over -1{}", "if size :over 99999999999999999999G{}");
    }

    private static void strings() {
        fine("if exists \"\"{}", "if exists \"a\\\"b\\\\\"{}", "if exists \"\n\u0000\u00ff\"{}", "if exists \"" + "\\x".repeat(200) + "\"{}");
        wrong("if exists \"{}", "if exists \"a\\\"{}", "if exists \"a\\", "if exists \"" + "x".repeat(201) + "\"{}");
        due("if\nexists \"a\n\n" + "x".repeat(200) + "\"{}", 2);
    }

    private static void texts() {
        String reject = "require \"reject\";reject ";
        fine(reject + "text:\n.\n;", reject + "TEXT:\t \r\na\r\n.\r\n;", reject + "text:\n..\n.x\n. \n.\r.\n\n.\n;", reject + "text:\n" + "x".repeat(999) + "\n.\n;",
            reject + "text:\n.." + "x".repeat(997) + "\r\n.\n;");
        due(reject + "\ntext:\n" + "x".repeat(1000) + "\n.\n;", 2);
        due(reject + "\ntext:\n" + "x".repeat(999) + "\r\n.\n;", 2);
        due(reject + "\ntext:\na\n.", 2);
        due(reject + "\ntext:\na\n.\r", 2);
        due(reject + "\ntext:\na\n", 2);
        due(reject + "\ntext:", 2);
        due(reject + "\ntext: x\n.\n;", 2);
        due(reject + "\ntext :\n.\n;", 2);
        due(reject + "\ntext: #\n.\n;", 2);
        due(reject + "text:\n.\n.\n;", 3);
        due(reject + "text:\n.\n", 3);
    }

    private static void grammar() {
        fine("if true{}else{}", "if true{}elsif true{}elsif false{keep;}else{stop;}", "if allof(true){}", "if anyof (true , not false){}",
            ALL + "fileinto :copy :flags [\"a\",\"b\"] \"c\";fileinto :flags \"a\" :copy \"c\";keep :flags \"\";redirect :copy \"a@b\";",
            ALL + "vacation :handle \"h\" :addresses [\"x\"] :subject \"s\" :days 3 \"r\";vacation \"\";setflag [\"\"];removeflag \"\";addflag \"\";",
            "if header \"a\" \"b\"{} if address [\"a\"] [\"b\",\"c\"]{} if exists [\"a\",\"b\"]{}");
        wrong("keep", "keep \"a\";", ";", "stop stop;", "if{}", "if true;", "if true", "if true{", "if true}", "}", "if true{}else", "if true{}else true{}", "else{}",
            "elsif true{}", "if true{}else{}else{}", "if true{}else{}elsif true{}", "if true{}keep;else{}", "if allof{}", "if allof(){}", "if allof(true,){}",
            "if allof(true true){}", "if allof true{}", "if not{}", "if not not{}", "if header \"a\"{}", "if header \"a\" :is \"b\"{}", "if header{}", "if exists []{}",
            "if exists [\"a\"{}", "if exists [\"a\",]{}", "if exists [\"a\" \"b\"]{}", "if exists [[\"a\"]]{}", "if exists a{}", "if size 5{}", "if size :over{}",
            "if size :over \"5\"{}", "if size :over :under 5{}", "if size :over 5 5{}", "fileinto;", "fileinto [\"a\"];", "fileinto \"a\" \"b\";", "redirect;",
            "reject [\"a\"];", "vacation;", "vacation :days \"1\" \"r\";", "vacation :days;", "vacation [\"r\"];", "vacation :subject [\"s\"] \"r\";", "stop \"a\";",
            "foo;", "require;", "keep;require \"copy\";", "true;", "if keep{}", "if stop{}", "hasflag \"a\";", "keep 5;", "setflag;", "if hasflag \"a\" \"b\"{}");
        due("require", 1);
        due("require \"copy\"", 1);
        due("require [];", 1);
        due("\nrequire [\"copy\",\n\"copy\"];require \"copy\";\n/**/ Require \"COPY\"; keep;", 0);
    }

    private static void required() {
        String[] words = {"fileinto \"a\";", "reject \"a\";", "if envelope \"from\" \"b\"{}", "redirect :copy \"a@b\";", "keep :flags \"a\";",
            "if header :count \"gt\" \"a\" \"1\"{}", "vacation \"a\";", "if header :comparator \"i;ascii-numeric\" \"a\" \"1\"{}"};
        String[] names = {"fileinto", "reject", "envelope", "copy", "imap4flags", "relational", "vacation", "comparator-i;ascii-numeric"};
        for (int i = 0; i < words.length; i++) {
            due("\n" + words[i], 2);
            due("require \"" + names[i] + "\";\n" + words[i], 0);
            due("require \"" + names[(i + 1) % names.length] + "\";\n" + words[i], 2);
        }
        String[] flags = {"setflag \"a\";", "addflag \"a\";", "removeflag \"a\";", "if hasflag \"a\"{}"};
        for (String word : flags) {
            due("\n" + word, 2);
            due("require \"Imap4Flags\";" + word, 0);
        }
        due("\nif header :value \"gt\" \"a\" \"1\"{}", 2);
        due("\nif header :comparator\n\"i;ascii-numeric\" \"a\" \"1\"{}", 3);
        due("require \"fileinto\";fileinto\n:copy \"a\";", 2);
        due("require [\"copy\",\n\"envelop\"];", 2);
        due("require \"\";", 1);
        due("require \"comparator-i;octet\";", 1);
        fine("redirect \"a@b\";keep;discard;", "if header :comparator \"i;octet\" \"a\" \"1\"{}", "if header :comparator \"I;ASCII-CASEMAP\" \"a\" \"1\"{}");
    }

    private static void tags() {
        fine(ALL + "if address :domain :comparator \"i;octet\" :contains \"a\" \"b\"{} if envelope :MATCHES :Localpart \"a\" \"b\"{}",
            ALL + "if hasflag :count \"GE\" \"1\"{} if hasflag :comparator \"i;octet\" :is \"1\"{}", ALL + "if address :all \"a\" \"b\"{}");
        wrong("if header :is :is \"a\" \"b\"{}", "if header :is :contains \"a\" \"b\"{}", "if header :count \"gt\" :value \"gt\" \"a\" \"b\"{}",
            "if header :comparator \"i;octet\" :comparator \"i;octet\" \"a\" \"b\"{}", "if address :all :domain \"a\" \"b\"{}", "if address :all :all \"a\" \"b\"{}",
            "if header :all \"a\" \"b\"{}", "if header :localpart \"a\" \"b\"{}", "if hasflag :domain \"b\"{}", "if exists :is \"a\"{}", "if size :is 5{}",
            "if header :over \"a\" \"b\"{}", "if header :copy \"a\" \"b\"{}", "keep :copy;", "keep :flags \"a\" :flags \"a\";", "fileinto :copy :copy \"a\";",
            "fileinto :flags \"a\" :flags \"a\" \"b\";", "redirect :flags \"a\" \"a@b\";", "redirect :copy :copy \"a@b\";", "reject :copy \"a\";",
            "vacation :days 1 :days 1 \"a\";", "vacation :handle \"a\" :handle \"a\" \"b\";", "vacation :subject \"a\" :subject \"a\" \"b\";",
            "vacation :addresses \"a\" :addresses \"a\" \"b\";", "vacation :is \"a\";", "setflag :flags \"a\";", "if header :foo \"a\" \"b\"{}", "keep :is;", "discard :copy;");
    }

    private static void askedFor() {
        fine(ALL + "if header :value \"NE\" :comparator \"I;octet\" \"a\" \"b\"{} if header :count \"Le\" \"a\" \"b\"{}",
            ALL + "fileinto \"12345678901234567890\";fileinto \" ~!\\\\\";", "redirect \"a.b@c-d.e\";");
        wrong("if header :count \"gg\" \"a\" \"b\"{}", "if header :value \"\" \"a\" \"b\"{}", "if header :value \"gt ge\" \"a\" \"b\"{}", "if header :count \"g\" \"a\" \"b\"{}",
            "if header :comparator \"i;ascii\" \"a\" \"b\"{}", "if header :comparator \"\" \"a\" \"b\"{}", "fileinto \"\";", "fileinto \"123456789012345678901\";",
            "fileinto \"a\tb\";", "fileinto \"a\u007f\";", "fileinto \"a\u00e9\";", "fileinto \"a\\\"\";", "fileinto text:\na\n.\n;", "redirect \"\";", "redirect \"a\";",
            "redirect \"<a@b>\";", "redirect \"a@b, c@d\";", "redirect \" a@b\";");
        due(ALL + "fileinto :flags \"\t\"\n\"\t\";", 2);
        due(ALL + "if header :count\n\"xx\" \"a\" \"b\"{}", 2);
    }

    private static void limits() {
        fine("keep;".repeat(100), "if true{}".repeat(50), "if not true{keep;}".repeat(25), "if true{}elsif true{}else{}".repeat(33) + "keep;");
        due("keep;".repeat(100) + "\nkeep;", 2);
        due("if true{}".repeat(50) + "\nkeep;", 2);
        due("if true{}".repeat(49) + "keep;if\ntrue{}", 2);
        due("if true{}".repeat(49) + "if true{}\nif true{}", 2);
        due("if true{}elsif true{}else{}".repeat(33) + "keep;\nkeep;", 2);
        fine("if true{".repeat(8) + "}".repeat(8));
        due("if true{".repeat(8) + "if true\n{" + "}".repeat(9), 2);
        fine("if not not not not not not not true{}", "if allof(anyof(allof(anyof(allof(anyof(allof(true,false))))))){}");
        due("if not not not not not not not not\ntrue{}", 2);
        due("if allof(anyof(allof(anyof(allof(anyof(allof(not\ntrue))))))){}", 2);
        String ten = "[\"\",\"\",\"\",\"\",\"\",\"\",\"\",\"\",\"\",\"\"";
        fine("if exists " + ten + "]{}");
        due("if exists " + ten + ",\n\"\"]{}", 2);
        due("require [\"copy\",\"copy\",\"copy\",\"copy\",\"copy\",\"copy\",\"copy\",\"copy\",\"copy\",\"copy\",\n\"copy\"];", 2);
        String thirty = ("if exists " + ten + "]{}").repeat(29) + "if exists " + ten;
        fine(thirty + "]{}");
        due(thirty + "]{}if exists\n\"\"{}", 2);
        due("require \"copy\";" + thirty.substring(0, thirty.length() - 3) + ",\n\"\"]{}", 2);
    }

    private static void lines() {
        due("keep;\n\nkeep;\r\n foo;", 4);
        due("keep;\r\rfoo;", 1);
        due("keep\n\n", 3);
        due("if true {\n# x\n", 3);
        due("/*\n\n*/foo", 3);
        due("keep;\n/*\n\n", 2);
        due("\"\n\n\"", 1);
        due("keep;\n?\n\"", 2);
        due("keep;\nkeep :flags\n\"", 2);
    }
}
