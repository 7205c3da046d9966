/** Promise 13, name: the shortest and longest names and addresses, their ends, and what is none. */
public final class NameEdgesTest {
    private static final int[] FAR = {Integer.MIN_VALUE, -1, Integer.MAX_VALUE};

    public static void main(String[] args) {
        whose();
        boxes();
        ends();
        addresses();
        withoutPower();
        Probe.end("NameEdgesTest");
    }

    private static void whose() {
        Probe.sentence("of user u (0 .. 3) the name of mailbox k; of 4 the address .. (-1 if there is none ..)");
        Probe p = new Probe();
        p.activate(3, "redirect \"a@b\";");
        p.greet();
        p.send("<>", "dan@here", "");
        long[] due = {0x494e424f58000000L, 0x494e424f58000000L, 0x494e424f58000000L, 0x494e424f58000000L, 0x6140620000000000L, -1L, -1L};
        for (int u = 0; u < due.length; u++) {
            Probe.due("of " + u, p.call().name(u, 0, 0), due[u]);
            Probe.due("the next one of " + u, p.call().name(u, 1, 0), -1L);
        }
        for (int far : FAR) {
            Probe.due("of " + far, p.call().name(far, 0, 0), -1L);
            Probe.due("mailbox " + far, p.call().name(0, far, 0), -1L);
            Probe.due("message " + far + " of the outbox", p.call().name(4, far, 0), -1L);
        }
    }

    private static void boxes() {
        Probe.sentence("Eight bytes of a text from byte i on .. the name of mailbox k");
        String[] names = {"x", "1234567", "12345678", "123456789", "~ 345678901234567890"};
        StringBuilder script = new StringBuilder("require \"fileinto\";");
        for (String name : names) {
            script.append("fileinto ").append(Bench.quoted(name)).append(";");
        }
        Probe p = Probe.greeted();
        p.activate(2, script.toString());
        p.send("<>", "cleo@here", "");
        for (int k = 0; k < names.length; k++) {
            Probe.due("mailbox " + (k + 1), p.name(2, k + 1), names[k]);
            int length = names[k].length();
            Probe.due("its last byte", p.call().name(2, k + 1, length - 1), (long) names[k].charAt(length - 1) << 56);
            Probe.due("behind its end", p.call().name(2, k + 1, length), 0L);
            Probe.due("behind that", p.call().name(2, k + 1, length + 1), 0L);
        }
        Probe.due("the seventh one", p.call().name(2, 6, 0), -1L);
        Probe.due("another user's", p.call().name(1, 1, 0), -1L);
    }

    private static void ends() {
        Probe.sentence("0 behind its end, -1 if .. i is below 0 (likewise)");
        Probe p = new Probe();
        p.activate(0, "require \"copy\";redirect :copy \"ab@cd.ef\";");
        p.greet();
        p.send("<>", "anna@here", "");
        Object[][] due = {{0, 0, 0x494e424f58000000L}, {0, 4, 0x5800000000000000L}, {0, 5, 0L}, {0, 6, 0L}, {0, Integer.MAX_VALUE, 0L}, {0, -1, -1L},
            {0, Integer.MIN_VALUE, -1L}, {4, 0, 0x61624063642e6566L}, {4, 1, 0x624063642e656600L}, {4, 7, 0x6600000000000000L}, {4, 8, 0L}, {4, 9, 0L},
            {4, Integer.MAX_VALUE, 0L}, {4, -1, -1L}, {4, Integer.MIN_VALUE, -1L}};
        for (Object[] row : due) {
            Probe.due("of " + row[0] + " from " + row[1], p.call().name((Integer) row[0], 0, (Integer) row[1]), row[2]);
        }
    }

    private static void addresses() {
        Probe.sentence("of 4 the address, as it was told, for which message k of the outbox is");
        String longest = "A.b" + "1".repeat(37) + "@D-." + "2".repeat(57);
        Probe p = new Probe();
        p.activate(0, "require [\"reject\",\"vacation\"];if exists \"r\"{reject \"x\";}elsif exists \"v\"{vacation \"x\";discard;}else{redirect \"" + longest
            + "\";redirect \"A@b\";}");
        p.greet();
        p.send("<>", "anna@here", "");
        p.send("<" + longest + ">", "anna@here", "r:\r\n");
        p.send("<" + longest + ">", "anna@here", "v:\r\nTo: anna@here\r\n");
        Probe.due("101 bytes", longest.length(), 101);
        Probe.due("redirected to it", p.name(4, 0), longest);
        Probe.due("the shortest one", p.name(4, 1), "A@b");
        Probe.due("refused to it", p.name(4, 2), longest);
        Probe.due("answered to it", p.name(4, 3), longest);
        Probe.due("none more", p.call().name(4, 4, 0), -1L);
        Probe.due("its last byte", p.call().name(4, 3, 100), (long) longest.charAt(100) << 56);
        Probe.due("behind its end", p.call().name(4, 3, 101), 0L);
        Probe.due("To: and all of it", p.bytes(2), "To: " + longest + "\r\nSubject: Refused\r\n\r\nx\r\n");
    }

    private static void withoutPower() {
        Probe.sentence("all calls but .. questions are refused: name answers without power");
        Probe p = new Probe();
        p.goDark();
        p.refused("a name", () -> p.call().name(0, 0, 0), 0x494e424f58000000L);
        p.refused("none", () -> p.call().name(4, 0, 0), -1L);
    }
}
