import java.util.ArrayList;
import java.util.List;

/** Scripts: the edges of what may stand where, how often and how deep. */
public final class GrammarEdgesTest {
    private static final String ALL = Bench.ALL + "\n";
    private static final String[] TAGS = {":is", ":contains", ":matches", ":count \"gt\"", ":value \"gt\"", ":comparator \"i;octet\"", ":all", ":localpart", ":domain",
        ":flags \"a\"", ":copy", ":days 1", ":subject \"a\"", ":addresses \"a\"", ":handle \"a\"", ":over", ":under"};
    // Which of these tags a word may have: a letter for each, x for those that it may have.
    private static final String[][] WORDS = {
        {"stop", ";", "................."}, {"discard", ";", "................."}, {"keep", ";", ".........x......."},
        {"fileinto", " \"a\";", ".........xx......"}, {"redirect", " \"a@b\";", "..........x......"}, {"reject", " \"a\";", "................."},
        {"setflag", " \"a\";", "................."}, {"addflag", " \"a\";", "................."}, {"removeflag", " \"a\";", "................."},
        {"vacation", " \"a\";", "...........xxxx.."}, {"if header", " \"a\" \"b\"{}", "xxxxxx..........."}, {"if address", " \"a\" \"b\"{}", "xxxxxxxxx........"},
        {"if envelope", " \"a\" \"b\"{}", "xxxxxxxxx........"}, {"if hasflag", " \"a\"{}", "xxxxxx..........."}, {"if exists", " \"a\"{}", "................."},
        {"if size", " 1{}", "...............xx"}, {"if allof", "(true){}", "................."}, {"if anyof", "(true){}", "................."},
        {"if not", " true{}", "................."}, {"if true", "{}", "................."}, {"if false", "{}", "................."}, {"if", " true{}", "................."},
        {"if true{}else", "{}", "................."}, {"if true{}elsif", " true{}", "................."}};

    public static void main(String[] args) {
        tagsOfWords();
        tagsTwice();
        tagsWithoutRequire();
        needed();
        requires();
        listLengths();
        blocksDeep();
        testsDeep();
        commandsAndTests();
        threeHundredStrings();
        askedFor();
        boxNames();
        leftmost();
        Probe.end("GrammarEdgesTest");
    }

    private static void tagsOfWords() {
        Probe.sentence("a token with which no script goes on .. and the last three (tags) for header and hasflag");
        for (String[] word : WORDS) {
            boolean needsOne = word[0].equals("if size");
            Bench.fault(ALL + word[0] + word[1], needsOne ? 2 : 0);
            for (int tag = 0; tag < TAGS.length; tag++) {
                Bench.fault(ALL + word[0] + " " + TAGS[tag] + word[1], word[2].charAt(tag) == 'x' ? 0 : 2);
            }
        }
        for (String tag : TAGS) {
            Bench.fault(ALL + "if size :under\n" + tag + " 1{}", 3);
        }
    }

    private static void tagsTwice() {
        Probe.sentence("a tag that is there already, or of which another of its group is (:is .. :value; :comparator; :all .. :domain)");
        for (String[] word : WORDS) {
            for (int first = 0; first < TAGS.length; first++) {
                for (int second = 0; second < TAGS.length; second++) {
                    if (word[2].charAt(first) == 'x' && word[2].charAt(second) == 'x') {
                        boolean sameGroup = group(first) == group(second);
                        Bench.fault(ALL + word[0] + TAGS[first] + "\n" + TAGS[second] + word[1], sameGroup ? 3 : 0);
                    }
                }
            }
        }
        Bench.fine(ALL + "if address :domain :comparator \"i;octet\" :value \"gt\" \"a\" \"b\"{}",
            ALL + "vacation :handle \"h\" :addresses [\"a\"] :subject \"s\" :days 1 \"r\";");
    }

    private static int group(int tag) {
        return tag <= 4 ? 0 : tag >= 6 && tag <= 8 ? 6 : tag >= 15 ? 15 : tag;
    }

    private static void tagsWithoutRequire() {
        Probe.sentence("a word, tag or string that needs one of these, which was not required: others need none");
        Bench.fine("if header :is \"a\" \"b\"{}", "if header :contains \"a\" \"b\"{}", "if header :matches \"a\" \"b\"{}", "if address :all \"a\" \"b\"{}",
            "if address :localpart \"a\" \"b\"{}", "if address :domain \"a\" \"b\"{}", "if header :comparator \"i;octet\" \"a\" \"b\"{}",
            "if header :comparator \"i;ascii-casemap\" \"a\" \"b\"{}", "if size :over 1{}elsif size :under 1{}else{}", "if exists \"a\"{stop;}", "keep;discard;redirect \"a@b\";",
            "if allof(true,anyof(false,not true)){}");
    }

    private static void needed() {
        Probe.sentence("a word, tag or string that needs one of these, which was not required");
        String[] names = {"fileinto", "reject", "envelope", "copy", "imap4flags", "relational", "vacation", "comparator-i;ascii-numeric"};
        String[][] scripts = {{"\nfileinto \"a\";"}, {"\nreject \"a\";"}, {"if\nenvelope \"a\" \"b\"{}"}, {"redirect\n:copy \"a@b\";"},
            {"keep\n:flags \"a\";", "\nsetflag \"a\";", "\naddflag \"a\";", "\nremoveflag \"a\";", "if\nhasflag \"a\"{}"},
            {"if header\n:count \"gt\" \"a\" \"b\"{}", "if header\n:value \"gt\" \"a\" \"b\"{}"}, {"\nvacation \"a\";"}, {"if header :comparator\n\"i;ascii-numeric\" \"a\" \"b\"{}"}};
        for (int i = 0; i < names.length; i++) {
            List<String> others = new ArrayList<>();
            for (int j = 0; j < names.length; j++) {
                if (j != i) {
                    others.add("\"" + names[j] + "\"");
                }
            }
            for (String script : scripts[i]) {
                Bench.fault(script, 2);
                Bench.fault("require \"" + names[i] + "\";" + script, 0);
                Bench.fault("require \"" + names[i].toUpperCase() + "\";" + script, 0);
                Bench.fault("require [" + String.join(",", others) + "];" + script, 2);
            }
        }
        Bench.fault("require \"fileinto\";fileinto\n:copy \"a\";", 2);
        Bench.fault("require \"fileinto\";fileinto\n:flags \"a\" \"a\";", 2);
    }

    private static void requires() {
        Probe.sentence("('require' strings ';')*; one in require that is none of ..");
        String ten = "[" + "\"copy\",".repeat(9) + "\"copy\"]";
        Bench.fine("require \"copy\";", "require [\"copy\"];", "require " + ten + ";", "require " + ten + ";require " + ten + ";require \"fileinto\";fileinto :copy \"a\";",
            "require \"copy\";require \"COPY\";Require \"Copy\";", "require \"fileinto\";require \"copy\";fileinto :copy \"a\";");
        String[] none = {"", "fileint", "fileintoo", " copy", "copy ", "fileinto reject", "i;ascii-numeric", "comparator-i;octet", "comparator-i;ascii-casemap", "body", "variables"};
        for (String name : none) {
            Bench.fault("require\n\"" + name + "\";", 2);
            Bench.fault("require [\"copy\",\n\"" + name + "\"];", 2);
        }
        Bench.fault("require \"copy\"\n\"copy\";", 2);
        Bench.fault("require\n[];", 2);
        Bench.fault("require\n;", 2);
        Bench.fault("keep;\nrequire \"copy\";", 2);
        Bench.fault("if true{\nrequire \"copy\";}", 2);
    }

    private static void listLengths() {
        Probe.sentence("strings: .. at most 10; a list's eleventh string (at its first token)");
        String ten = "\"1\"" + ",\"1\"".repeat(9);
        String[][] lists = {{"if exists ", "{}"}, {"if header ", " \"b\"{}"}, {"if header \"a\" ", "{}"}, {"if address ", " \"b\"{}"}, {"if envelope \"a\" ", "{}"}, {"if hasflag ", "{}"},
            {"setflag ", ";"}, {"addflag ", ";"}, {"removeflag ", ";"}, {"keep :flags ", ";"}, {"fileinto :flags ", " \"a\";"}, {"vacation :addresses ", " \"r\";"}};
        for (String[] list : lists) {
            Bench.fault(ALL + list[0] + "\"1\"" + list[1], 0);
            Bench.fault(ALL + list[0] + "[\"1\"]" + list[1], 0);
            Bench.fault(ALL + list[0] + "[" + ten + "]" + list[1], 0);
            Bench.fault(ALL + list[0] + "[" + ten + "\n,\n\"1\"]" + list[1], 4);
            Bench.fault(ALL + list[0] + "\n[\n]" + list[1], 4);
            Bench.fault(ALL + list[0] + "[\"1\",\n]" + list[1], 3);
            Bench.fault(ALL + list[0] + "[\"1\"\n\"1\"]" + list[1], 3);
            Bench.fault(ALL + list[0] + "[\n[\"1\"]]" + list[1], 3);
        }
        String[][] single = {{"fileinto ", ";"}, {"redirect ", ";"}, {"reject ", ";"}, {"vacation ", ";"}, {"vacation :subject ", " \"r\";"}, {"vacation :handle ", " \"r\";"},
            {"if header :count ", " \"a\" \"1\"{}"}, {"if header :comparator ", " \"a\" \"1\"{}"}};
        for (String[] list : single) {
            Bench.fault(ALL + list[0] + "\n[\"a@b\"]" + list[1], 3);
        }
    }

    private static void blocksDeep() {
        Probe.sentence("block: .. 8 in one another; what is too deep (at its first token: the {)");
        Bench.fine("if true{".repeat(8) + "}".repeat(8), "if true{".repeat(8) + "keep;" + "}".repeat(8), ("if true{".repeat(8) + "}".repeat(8)).repeat(2),
            "if true{}".repeat(12), "if true{if true{".repeat(4) + "}else{}".repeat(7) + "}");
        Bench.fault("if true{".repeat(8) + "if true\n{}" + "}".repeat(8), 2);
        Bench.fault("if true{".repeat(8) + "if true\n\n{", 3);
        Bench.fault("if false{}else{".repeat(8) + "if false\n{" + "}".repeat(9), 2);
        Bench.fine("if false{}else{".repeat(8) + "}".repeat(8), "if false{}elsif true{".repeat(8) + "}".repeat(8));
        Bench.fault("if false{}elsif true{".repeat(8) + "if true\n{}" + "}".repeat(8), 2);
        Bench.fault("if true{".repeat(7) + "if true{}else{if true\n{}}" + "}".repeat(7), 2);
    }

    private static void testsDeep() {
        Probe.sentence("tests 8 in one another; what is too deep (at its first token: the word)");
        Bench.fine("if " + "not ".repeat(7) + "true{}", "if " + "allof(".repeat(7) + "true" + ")".repeat(7) + "{}", "if anyof(" + "not ".repeat(6) + "true," + "not ".repeat(6) + "false){}",
            "if not not not not true{if " + "not ".repeat(7) + "true{}}", "if true{}elsif " + "not ".repeat(7) + "true{}");
        Bench.fault("if " + "not ".repeat(8) + "\ntrue{}", 2);
        Bench.fault("if " + "not ".repeat(7) + "\nnot\ntrue{}", 3);
        Bench.fault("if " + "allof(".repeat(8) + "\ntrue" + ")".repeat(8) + "{}", 2);
        Bench.fault("if " + "anyof(".repeat(7) + "true,\nnot\ntrue" + ")".repeat(7) + "{}", 3);
        Bench.fault("if true{}elsif " + "not ".repeat(8) + "\ntrue{}", 2);
        Bench.fault("if " + "not ".repeat(7) + "allof(\nexists \"a\"){}", 2);
    }

    private static void commandsAndTests() {
        Probe.sentence("more than 100 commands and tests (each at its first token: the word)");
        Bench.fine("stop;".repeat(100), "if true{}".repeat(50), "if true{}" + "elsif true{}".repeat(98), "if true{}else{}".repeat(50), "if anyof(" + "true,".repeat(97) + "true){}",
            "require \"copy\";".repeat(5) + "stop;".repeat(100));
        Bench.fault("stop;".repeat(100) + "\nstop;", 2);
        Bench.fault("if true{}".repeat(50) + "\nif\ntrue{}", 2);
        Bench.fault("stop;if true{}".repeat(33) + "if\ntrue{}", 2);
        Bench.fault("if true{}" + "elsif true{}".repeat(98) + "elsif\ntrue{}", 2);
        Bench.fault("if anyof(" + "true,".repeat(98) + "\ntrue){}", 2);
        Bench.fault("if true{}" + "elsif true{}".repeat(98) + "else{\nstop;}", 2);
        Bench.fault("if anyof(" + "true,".repeat(97) + "true){}\nstop;", 2);
    }

    private static void threeHundredStrings() {
        Probe.sentence("more than .. 300 strings (at its first token: the string)");
        String ten = "[" + "\"\",".repeat(9) + "\"\"]";
        String all = ("if exists " + ten + "{}").repeat(29);
        Bench.fine(all + "if exists " + ten + "{}", all + "if header [" + "\"\",".repeat(7) + "\"\"] [\"\",\"\"]{}");
        Bench.fault(all + "if exists " + ten + "{}if exists\n\"\"{}", 2);
        Bench.fault("require\"copy\";" + all + "if exists [" + "\"\",".repeat(9) + "\n\"\"]{}", 2);
        Bench.fault("if address :comparator \"i;octet\" \"\" \"\"{}" + all + "if exists [" + "\"\",".repeat(7) + "\n\"\"]{}", 2);
        Bench.fault(all + "if exists " + ten + "{}redirect\n\"a@b\";", 2);
    }

    private static void askedFor() {
        Probe.sentence("a string behind :count or :value that is none of gt ge lt le eq ne; behind :comparator none of i;octet i;ascii-casemap i;ascii-numeric (without case)");
        String[] relations = {"gt", "ge", "lt", "le", "eq", "ne", "GT", "Ge"};
        String[] noRelations = {"", "g", "gtt", "gg", " gt", "gt ", "gt ge", "=="};
        String[] tags = {":count", ":value"};
        for (String tag : tags) {
            for (String word : relations) {
                Bench.fault(ALL + "if header " + tag + "\n\"" + word + "\" \"a\" \"1\"{}", 0);
            }
            for (String word : noRelations) {
                Bench.fault(ALL + "if header " + tag + "\n\"" + word + "\" \"a\" \"1\"{}", 3);
            }
        }
        String[] comparators = {"i;octet", "i;ascii-casemap", "i;ascii-numeric", "I;OCTET", "i;Ascii-Casemap", "I;ascii-NUMERIC"};
        String[] none = {"", "i;octe", "i;octets", "octet", "i;ascii", "i;ascii-casemap i;octet", "comparator-i;ascii-numeric", "i;unicode-casemap"};
        for (String word : comparators) {
            Bench.fault(ALL + "if header :comparator\n\"" + word + "\" \"a\" \"1\"{}", 0);
        }
        for (String word : none) {
            Bench.fault(ALL + "if header :comparator\n\"" + word + "\" \"a\" \"1\"{}", 3);
        }
    }

    private static void boxNames() {
        Probe.sentence("behind fileinto none or more than 20 bytes, or one not 32 .. 126 but \"");
        for (int b = 0; b < 256; b++) {
            boolean taken = b >= 32 && b <= 126 && b != '"';
            Bench.fault("require \"fileinto\";fileinto " + Bench.quoted("a" + (char) b) + ";", taken ? 0 : 1);
        }
        String[] taken = {" ", "~", "x".repeat(20), "\\".repeat(20), "a b", "INBOX"};
        String[] wrong = {"", "x".repeat(21), "x".repeat(200), "\"", "\n", "\u001f", "\u007f", "\u0080", "\u00ff"};
        for (String name : taken) {
            Bench.fault(ALL + "fileinto\n" + Bench.quoted(name) + ";", 0);
        }
        for (String name : wrong) {
            Bench.fault(ALL + "fileinto\n" + Bench.quoted(name) + ";", 3);
        }
        Bench.fine(ALL + "fileinto :flags \"\u001f\" \"x\";", ALL + "reject \"\";", ALL + "vacation :handle \"\" :subject \"\" \"\";");
    }

    private static void leftmost() {
        Probe.sentence("FAULTS, the first one from the left");
        Bench.fault("foo\n\"", 1);
        Bench.fault("keep\n\"\n?", 2);
        Bench.fault("\nkeep :flags\n2147483648", 2);
        Bench.fault(ALL + "fileinto\n\"\"\n\"", 3);
        Bench.fault(ALL + "if header :is\n:is\n:foo", 3);
        Bench.fault("keep;\n/*\nfoo", 2);
        Bench.fault("\nfileinto\n:copy\n\"\";", 2);
        Bench.fault("stop;".repeat(100) + "\nfoo\nstop;", 2);
    }
}
