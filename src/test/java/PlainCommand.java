import java.util.List;

/** The form of commands for scripts, written a second time from the document. */
final class PlainCommand {
    static final int BEGUN = -1;
    static final int WHOLE = -2;
    static final int TOO_BIG = -3;

    /** What ends the reading: BEGUN, WHOLE, TOO_BIG, or where a byte stands with which no command goes on. */
    private static final class End extends RuntimeException {
        private static final long serialVersionUID = 1;
        final int what;

        End(int what) {
            super(null, null, false, false);
            this.what = what;
        }
    }

    private final StringBuilder came;
    private int at;

    private PlainCommand(StringBuilder came) {
        this.came = came;
    }

    /** The word, and the parts, each with 9 (a number) or a quote ahead; what ends it. */
    static int read(StringBuilder came, List<String> parts) {
        try {
            new PlainCommand(came).all(parts);
            return WHOLE;
        } catch (End end) {
            return end.what;
        }
    }

    private char next() {
        if (at == came.length()) {
            throw new End(BEGUN);
        }
        return came.charAt(at);
    }

    private boolean is(String many) {
        return many.indexOf(next()) >= 0;
    }

    private void want(String one) {
        if (!is(one)) {
            throw new End(at);
        }
        at++;
    }

    private void all(List<String> parts) {
        String letters = "ABCDEFGHIJKLMNOPQRSTUVWXYZabcdefghijklmnopqrstuvwxyz";
        want(letters);
        while (is(letters)) {
            at++;
        }
        parts.add(came.substring(0, at));
        while (parts.size() < 4 && is(" ")) {
            at++;
            parts.add(is("\"") ? quoted() : is("{") ? literal() : "9" + number());
        }
        want("\r");
        want("\n");
    }

    private String number() {
        int start = at;
        want("0123456789");
        while (is("0123456789")) {
            if (at - start == 9) {
                throw new End(at);
            }
            at++;
        }
        return came.substring(start, at);
    }

    private String quoted() {
        StringBuilder meant = new StringBuilder("\"");
        at++;
        while (!is("\"")) {
            if (is("\\")) {
                at++;
            }
            if (is("\r\n") || meant.length() > 200) {
                throw new End(at);
            }
            meant.append(next());
            at++;
        }
        at++;
        return meant.toString();
    }

    private String literal() {
        at++;
        int size = Integer.parseInt(number());
        want("+");
        want("}");
        want("\r");
        want("\n");
        if (size > 2000) {
            throw new End(TOO_BIG);
        }
        int start = at;
        if (came.length() - start < size) {
            throw new End(BEGUN);
        }
        at += size;
        return "\"" + came.substring(start, at);
    }
}
