/** Promise 12, bytes: up to a message's end and behind it, and messages that there are not. */
public final class BytesEdgesTest {
    public static void main(String[] args) {
        numbers();
        ends();
        below();
        anyBytes();
        withoutPower();
        Probe.end("BytesEdgesTest");
    }

    private static void numbers() {
        Probe.sentence("message n of the store (by its number); -1 if there is none");
        Probe p = new Probe();
        p.activate(0, "redirect \"a@b\";");
        p.greet();
        p.send("<>", "anna@here", "out\r\n");
        p.send("<>", "dan@here", "box\r\n");
        long[] due = {0x6f75740d0a000000L, 0x626f780d0a000000L, -1L, -1L};
        for (int n = 0; n < due.length; n++) {
            Probe.due("message " + n, p.call().bytes(n, 0), due[n]);
        }
        int[] far = {-1, Integer.MIN_VALUE, Integer.MAX_VALUE};
        for (int n : far) {
            Probe.due("message " + n, p.call().bytes(n, 0), -1L);
            Probe.due("message " + n + " from there", p.call().bytes(n, n), -1L);
        }
    }

    private static void ends() {
        Probe.sentence("Eight bytes .. from byte i on, the first one highest, 0 behind its end");
        Probe p = Probe.greeted();
        p.send("<>", "anna@here", "");
        p.send("<>", "anna@here", "12345\r\n");
        p.send("<>", "anna@here", "123456\r\n");
        p.send("<>", "anna@here", "1234567\r\n");
        Object[][] due = {{0, 0, 0L}, {0, 1, 0L}, {1, 0, 0x31323334350d0a00L}, {2, 0, 0x3132333435360d0aL}, {3, 0, 0x313233343536370dL},
            {3, 1, 0x3233343536370d0aL}, {3, 2, 0x33343536370d0a00L}, {3, 8, 0x0a00000000000000L}, {3, 9, 0L}, {3, 10, 0L},
            {3, Integer.MAX_VALUE, 0L}, {3, Integer.MAX_VALUE - 7, 0L}, {0, Integer.MAX_VALUE, 0L}};
        for (Object[] row : due) {
            Probe.due("message " + row[0] + " from " + row[1], p.call().bytes((Integer) row[0], (Integer) row[1]), row[2]);
        }
        Probe big = Probe.greeted();
        big.send("<>", "anna@here", "x".repeat(3998) + "\r\n");
        Probe.due("the last eight of 4000", big.call().bytes(0, 3992), 0x7878787878780d0aL);
        Probe.due("the last of 4000", big.call().bytes(0, 3999), 0x0a00000000000000L);
        Probe.due("behind 4000", big.call().bytes(0, 4000), 0L);
    }

    private static void below() {
        Probe.sentence("-1 .. if i is below 0");
        Probe p = Probe.greeted();
        p.send("<>", "anna@here", "1234567\r\n");
        int[] below = {-1, -8, Integer.MIN_VALUE};
        for (int i : below) {
            p.refused("from " + i, () -> p.call().bytes(0, i), -1L);
        }
    }

    private static void anyBytes() {
        Probe.sentence("Eight bytes: each from 0 to 255");
        Probe p = Probe.greeted();
        StringBuilder all = new StringBuilder();
        for (int b = 0; b < 256; b++) {
            all.append((char) b);
        }
        p.send("<>", "anna@here", all + "\u00ff".repeat(8) + "\r\n");
        for (int i = 0; i < 256; i += 8) {
            long due = 0;
            for (int j = 0; j < 8; j++) {
                due = due << 8 | i + j;
            }
            Probe.due("from " + i, p.call().bytes(0, i), due);
        }
        Probe.due("eight times 255", p.call().bytes(0, 256), -1L);
        Probe.due("seven times 255", p.call().bytes(0, 257), 0xffffffffffffff0dL);
    }

    private static void withoutPower() {
        Probe.sentence("all calls but .. questions are refused: bytes answers without power");
        Probe p = Probe.greeted();
        p.send("<>", "anna@here", "123456\r\n");
        p.goDark();
        p.refused("a message", () -> p.call().bytes(0, 0), 0x3132333435360d0aL);
        p.refused("none", () -> p.call().bytes(1, 0), -1L);
    }
}
