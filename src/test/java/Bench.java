/** Asks many scripts of few objects: a new object is made before the calls of the old one run out. */
final class Bench {
    static final String ALL = "require [\"fileinto\",\"reject\",\"envelope\",\"copy\",\"imap4flags\",\"relational\",\"vacation\","
        + "\"comparator-i;ascii-numeric\"];";
    private static Probe p = Probe.greeted();

    private Bench() {
    }

    /** An object, greeted, with so many calls left. */
    static Probe probe(int calls) {
        if (p.callsLeft() < calls) {
            p = Probe.greeted();
        }
        return p;
    }

    /** A text as a string of a script. */
    static String quoted(String text) {
        return "\"" + text.replace("\\", "\\\\").replace("\"", "\\\"") + "\"";
    }

    private static int feeds(String text) {
        return text.length() / 20 + 2;
    }

    /** Holds the line of a script's first fault, 0 without one, against the one that is due. */
    static void fault(String script, int line) {
        Probe.due("fault of " + script, probe(feeds(script) + 8).faultOf(script), line);
    }

    static void fine(String... scripts) {
        for (String script : scripts) {
            fault(script, 0);
        }
    }

    /** Holds what a test answers, behind some commands and of a message that comes from <Sam@Far.net> to Anna, against what is due. */
    static void holds(String commands, String test, String message, boolean due) {
        String script = ALL + commands + "if " + test + "{discard;}else{keep;}";
        Probe one = probe(feeds(script) + feeds(message) + 30);
        one.activate(0, script);
        int before = one.call().count(0);
        one.send("<Sam@Far.net>", "Anna@here", message);
        Probe.due(commands + test + " of " + message, one.call().count(0) == before, due);
    }

    static void holds(String test, String message, boolean due) {
        holds("", test, message, due);
    }
}
