import java.util.ArrayList;
import java.util.Arrays;
import java.util.HashMap;
import java.util.HashSet;
import java.util.List;
import java.util.Locale;
import java.util.Map;
import java.util.Set;

/** The form of scripts, written a second time from the document: by descent, with a fault as an exception. */
final class PlainScript {
    /** Where a fault stands. */
    static final class Fault extends RuntimeException {
        private static final long serialVersionUID = 1;
        final int at;

        Fault(int at) {
            super(null, null, false, false);
            this.at = at;
        }
    }

    /** A command or a test. */
    static final class Part {
        final String word;
        final Map<String, List<String>> tags = new HashMap<>();
        final List<List<String>> strings = new ArrayList<>();
        final List<Part> parts = new ArrayList<>();
        final List<List<Part>> blocks = new ArrayList<>();
        int number = -1;

        Part(String word) {
            this.word = word;
        }
    }

    private static final List<String> EXTENSIONS = Arrays.asList("fileinto", "reject", "envelope", "copy", "imap4flags",
        "relational", "vacation", "comparator-i;ascii-numeric");
    private static final List<String> COMPARATORS = Arrays.asList("i;octet", "i;ascii-casemap", "i;ascii-numeric");
    private static final List<String> RELATIONS = Arrays.asList("gt", "ge", "lt", "le", "eq", "ne");
    private static final List<String> MATCHES = Arrays.asList(":is", ":contains", ":matches", ":count", ":value");
    private static final List<String> ADDRESS_PARTS = Arrays.asList(":all", ":localpart", ":domain");
    private static final Map<String, String> NEEDS = new HashMap<>();

    static {
        NEEDS.put("fileinto", "fileinto");
        NEEDS.put("reject", "reject");
        NEEDS.put("envelope", "envelope");
        NEEDS.put(":copy", "copy");
        NEEDS.put(":flags", "imap4flags");
        NEEDS.put("setflag", "imap4flags");
        NEEDS.put("addflag", "imap4flags");
        NEEDS.put("removeflag", "imap4flags");
        NEEDS.put("hasflag", "imap4flags");
        NEEDS.put(":count", "relational");
        NEEDS.put(":value", "relational");
        NEEDS.put("vacation", "vacation");
        NEEDS.put("i;ascii-numeric", "comparator-i;ascii-numeric");
    }

    private final String source;
    private final Set<String> required = new HashSet<>();
    private int at;
    private int begin;
    /** 'w' a word, ':' a tag, '9' a number, '"' a string, ';' a sign, 'e' the end. */
    private char kind;
    private String token;
    private long value;
    private int counted;
    private int stringCount;

    private PlainScript(String source) {
        this.source = source;
    }

    /** The commands of a script; a fault is thrown. */
    static List<Part> read(String source) {
        PlainScript script = new PlainScript(source);
        script.next();
        while (script.isWord("require")) {
            script.next();
            script.strings("require");
            script.sign(";");
        }
        List<Part> commands = new ArrayList<>();
        while (script.kind != 'e') {
            commands.add(script.command(0));
        }
        return commands;
    }

    /** The line of the first fault, 0 if there is none. */
    static int faultLine(String source) {
        try {
            read(source);
            return 0;
        } catch (Fault fault) {
            return 1 + (int) source.substring(0, fault.at).chars().filter(c -> c == 10).count();
        }
    }

    private static String small(String text) {
        return text.toLowerCase(Locale.ROOT);
    }

    private boolean starts(String text) {
        return source.startsWith(text, at);
    }

    private static boolean isLetter(char c) {
        return c >= 'a' && c <= 'z' || c >= 'A' && c <= 'Z' || c == '_';
    }

    private static boolean isDigit(char c) {
        return c >= '0' && c <= '9';
    }

    private void skip() {
        while (at < source.length()) {
            if ("\t\n\r ".indexOf(source.charAt(at)) >= 0) {
                at++;
            } else if (starts("#")) {
                int end = source.indexOf('\n', at);
                at = end < 0 ? source.length() : end + 1;
            } else if (starts("/*")) {
                int end = source.indexOf("*/", at + 2);
                if (end < 0) {
                    throw new Fault(at);
                }
                at = end + 2;
            } else {
                return;
            }
        }
    }

    private int wordEnd(int from) {
        int end = from;
        if (end < source.length() && isLetter(source.charAt(end))) {
            while (end < source.length() && (isLetter(source.charAt(end)) || isDigit(source.charAt(end)))) {
                end++;
            }
        }
        return end;
    }

    private void next() {
        skip();
        begin = at;
        if (at == source.length()) {
            kind = 'e';
            token = "";
            return;
        }
        char c = source.charAt(at);
        if (c == '"') {
            quoted();
        } else if (isDigit(c)) {
            number();
        } else if (";,()[]{}".indexOf(c) >= 0) {
            kind = ';';
            token = String.valueOf(c);
            at++;
        } else {
            boolean tag = c == ':';
            int end = wordEnd(tag ? at + 1 : at);
            if (end == (tag ? at + 1 : at)) {
                throw new Fault(at);
            }
            kind = tag ? ':' : 'w';
            token = small(source.substring(at, end));
            at = end;
            if (token.equals("text") && source.substring(at).matches("(?s):[ \\t]*\\r?\\n.*")) {
                text();
            }
        }
    }

    private void quoted() {
        StringBuilder meant = new StringBuilder();
        int i = at + 1;
        while (i < source.length() && source.charAt(i) != '"') {
            if (source.charAt(i) == '\\') {
                i++;
            }
            if (i < source.length()) {
                meant.append(source.charAt(i));
            }
            i++;
        }
        if (i >= source.length() || meant.length() > 200) {
            throw new Fault(begin);
        }
        kind = '"';
        token = meant.toString();
        at = i + 1;
    }

    private void text() {
        StringBuilder meant = new StringBuilder();
        int line = source.indexOf('\n', at) + 1;
        while (true) {
            int end = source.indexOf('\n', line) + 1;
            if (end == 0) {
                throw new Fault(begin);
            }
            String whole = source.substring(line, end);
            line = end;
            if (whole.equals(".\n") || whole.equals(".\r\n")) {
                break;
            }
            meant.append(whole.startsWith("..") ? whole.substring(1) : whole);
        }
        if (meant.length() > 1000) {
            throw new Fault(begin);
        }
        kind = '"';
        token = meant.toString();
        at = line;
    }

    private void number() {
        java.math.BigInteger number;
        int end = at;
        while (end < source.length() && isDigit(source.charAt(end))) {
            end++;
        }
        number = new java.math.BigInteger(source.substring(at, end));
        int unit = end < source.length() ? "kmg".indexOf(small(source.substring(end, end + 1))) : -1;
        if (unit >= 0) {
            number = number.shiftLeft(10 * (unit + 1));
            end++;
        }
        boolean glued = end < source.length() && (isLetter(source.charAt(end)) || isDigit(source.charAt(end)));
        if (glued || number.compareTo(java.math.BigInteger.valueOf(2147483647)) > 0) {
            throw new Fault(begin);
        }
        kind = '9';
        token = "";
        value = number.longValue();
        at = end;
    }

    private boolean isWord(String word) {
        return kind == 'w' && token.equals(word);
    }

    private boolean isSign(String sign) {
        return kind == ';' && token.equals(sign);
    }

    private void sign(String sign) {
        if (!isSign(sign)) {
            throw new Fault(begin);
        }
        next();
    }

    private void need(String what) {
        if (NEEDS.containsKey(what) && !required.contains(NEEDS.get(what))) {
            throw new Fault(begin);
        }
    }

    private String string(String behind) {
        if (kind != '"') {
            throw new Fault(begin);
        }
        stringCount++;
        boolean fine = stringCount <= 300;
        String low = small(token);
        switch (behind) {
            case "require":
                fine = fine && EXTENSIONS.contains(low);
                required.add(low);
                break;
            case ":count": case ":value":
                fine = fine && RELATIONS.contains(low);
                break;
            case ":comparator":
                fine = fine && COMPARATORS.contains(low);
                need(low);
                break;
            case "fileinto":
                fine = fine && token.matches("[ -~&&[^\"]]{1,20}");
                break;
            case "redirect":
                fine = fine && PlainText.isAddress(token);
                break;
            default:
                break;
        }
        if (!fine) {
            throw new Fault(begin);
        }
        String meant = token;
        next();
        return meant;
    }

    private List<String> strings(String behind) {
        List<String> list = new ArrayList<>();
        if (!isSign("[")) {
            list.add(string(behind));
            return list;
        }
        do {
            next();
            if (list.size() == 10) {
                throw new Fault(begin);
            }
            list.add(string(behind));
        } while (isSign(","));
        sign("]");
        return list;
    }

    private void count(String... words) {
        if (kind != 'w' || !Arrays.asList(words).contains(token)) {
            throw new Fault(begin);
        }
        need(token);
        counted++;
        if (counted > 100) {
            throw new Fault(begin);
        }
    }

    private void tags(Part part, String... allowed) {
        while (kind == ':') {
            String tag = token;
            need(tag);
            boolean fine = Arrays.asList(allowed).contains(tag) && !part.tags.containsKey(tag);
            for (List<String> group : Arrays.asList(MATCHES, ADDRESS_PARTS)) {
                for (String other : group) {
                    fine = fine && !(group.contains(tag) && part.tags.containsKey(other));
                }
            }
            if (!fine) {
                throw new Fault(begin);
            }
            part.tags.put(tag, new ArrayList<>());
            next();
            if (tag.equals(":flags") || tag.equals(":addresses")) {
                part.tags.put(tag, strings(tag));
            } else if (tag.equals(":days")) {
                part.number = number9();
            } else if (Arrays.asList(":count", ":value", ":comparator", ":subject", ":handle").contains(tag)) {
                part.tags.get(tag).add(string(tag));
            }
        }
    }

    private int number9() {
        if (kind != '9') {
            throw new Fault(begin);
        }
        int number = (int) value;
        next();
        return number;
    }

    private List<Part> block(int deep) {
        if (!isSign("{") || deep == 8) {
            throw new Fault(begin);
        }
        next();
        List<Part> commands = new ArrayList<>();
        while (!isSign("}")) {
            commands.add(command(deep + 1));
        }
        next();
        return commands;
    }

    private Part command(int deep) {
        count("if", "stop", "discard", "keep", "fileinto", "redirect", "reject", "setflag", "addflag", "removeflag", "vacation");
        Part part = new Part(token);
        next();
        switch (part.word) {
            case "if":
                part.parts.add(test(1));
                part.blocks.add(block(deep));
                while (isWord("elsif")) {
                    next();
                    part.parts.add(test(1));
                    part.blocks.add(block(deep));
                }
                if (isWord("else")) {
                    next();
                    part.blocks.add(block(deep));
                }
                return part;
            case "keep": tags(part, ":flags"); break;
            case "fileinto": tags(part, ":flags", ":copy"); break;
            case "redirect": tags(part, ":copy"); break;
            case "vacation": tags(part, ":days", ":subject", ":addresses", ":handle"); break;
            default: break;
        }
        if (part.word.endsWith("flag")) {
            part.strings.add(strings(part.word));
        } else if (!Arrays.asList("stop", "discard", "keep").contains(part.word)) {
            part.strings.add(Arrays.asList(string(part.word)));
        }
        sign(";");
        return part;
    }

    private Part test(int deep) {
        count("header", "address", "envelope", "hasflag", "exists", "size", "allof", "anyof", "not", "true", "false");
        if (deep > 8) {
            throw new Fault(begin);
        }
        Part part = new Part(token);
        next();
        switch (part.word) {
            case "header": case "hasflag":
                tags(part, ":is", ":contains", ":matches", ":count", ":value", ":comparator");
                break;
            case "address": case "envelope":
                tags(part, ":is", ":contains", ":matches", ":count", ":value", ":comparator", ":all", ":localpart", ":domain");
                break;
            case "size":
                if (kind != ':' || !token.equals(":over") && !token.equals(":under")) {
                    throw new Fault(begin);
                }
                part.tags.put(token, new ArrayList<>());
                next();
                part.number = number9();
                break;
            case "not":
                part.parts.add(test(deep + 1));
                break;
            case "allof": case "anyof":
                if (!isSign("(")) {
                    throw new Fault(begin);
                }
                do {
                    next();
                    part.parts.add(test(deep + 1));
                } while (isSign(","));
                sign(")");
                break;
            default:
                break;
        }
        if (Arrays.asList("header", "address", "envelope", "exists").contains(part.word)) {
            part.strings.add(strings(part.word));
        }
        if (Arrays.asList("header", "address", "envelope", "hasflag").contains(part.word)) {
            part.strings.add(strings(part.word));
        }
        return part;
    }
}
