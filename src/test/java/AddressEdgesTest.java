/** Addresses in a value: what parts them, what is left out of them, and what is none. */
public final class AddressEdgesTest {
    public static void main(String[] args) {
        parts();
        quoted();
        inOneAnother();
        escapes();
        otherSign();
        notClosed();
        angles();
        anglesNotClosed();
        leftOut();
        none();
        Probe.end("AddressEdgesTest");
    }

    /** The addresses of a value, in their order, are these. */
    private static void due(String value, String... addresses) {
        StringBuilder test = new StringBuilder("allof(address :count \"eq\" \"to\" \"" + addresses.length + "\"");
        for (String address : addresses) {
            test.append(",address :comparator \"i;octet\" \"to\" ").append(Bench.quoted(address));
        }
        Bench.holds(test + ")", "To: " + value + "\r\nX: x@x\r\n", true);
    }

    private static void parts() {
        Probe.sentence("parts between ,");
        due("");
        due(",");
        due(",,,");
        due("a@b", "a@b");
        due(",a@b", "a@b");
        due("a@b,", "a@b");
        due("a@b,,c@d", "a@b", "c@d");
        due("a@b,a@b", "a@b", "a@b");
        due("a@b c@d");
        due("a@b;c@d");
        due("a@b,\r\n c@d,\r\n\te@f", "a@b", "c@d", "e@f");
        due("x,a@b,y z,c@d", "a@b", "c@d");
    }

    private static void quoted() {
        Probe.sentence("not within \" \"");
        due("\",\" <a@b>", "a@b");
        due("\"a@b,c@d\"");
        due("\"a@b,c@d\",e@f", "e@f");
        due("\"\" <a@b>,c@d", "a@b", "c@d");
        due("\"x\" \"y,z\" <a@b>", "a@b");
        due("\"x\",\"y\" <a@b>", "a@b");
    }

    private static void inOneAnother() {
        Probe.sentence("or ( ) in one another");
        due("(,)a@b", "a@b");
        due("(a@b,c@d)");
        due("((,),)a@b,c@d", "a@b", "c@d");
        due("(()a@b,c@d");
        due("(())a@b,c@d", "a@b", "c@d");
        due("(".repeat(150) + "," + ")".repeat(150) + "a@b,c@d", "a@b", "c@d");
        due("(".repeat(151) + "," + ")".repeat(150) + "a@b,c@d");
        due("(x)(y,)a@b", "a@b");
        due("a@b),c@d", "c@d");
        due("(x))a@b,c@d", "c@d");
    }

    private static void escapes() {
        Probe.sentence("in both of which \\ takes the next byte along");
        due("\"\\\",\" <a@b>", "a@b");
        due("\"\\\\\",a@b", "a@b");
        due("\"\\\\\\\",\" <a@b>", "a@b");
        due("(\\),)a@b", "a@b");
        due("(\\(,)a@b,c@d", "a@b", "c@d");
        due("(\\\\)a@b,c@d", "a@b", "c@d");
        due("(\\x,)a@b", "a@b");
        due("\\(a@b,c@d)");
        due("a@b\\,c@d", "c@d");
        due("\"x\\");
        due("a@b (x\\", "a@b");
    }

    private static void otherSign() {
        Probe.sentence("and the other sign means nothing");
        due("\"(\" <a@b>,c@d", "a@b", "c@d");
        due("\")\" <a@b>,c@d", "a@b", "c@d");
        due("(\")a@b,c@d", "a@b", "c@d");
        due("(\"x\",\")a@b,c@d", "a@b", "c@d");
        due("\"<\" <a@b>", "a@b");
        due("(<)a@b", "a@b");
        due("(>)<a@b>", "a@b");
    }

    private static void notClosed() {
        Probe.sentence("one that is not closed goes to the value's end");
        due("\"a@b,c@d");
        due("<a@b>\",c@d", "a@b");
        due("a@b(,c@d", "a@b");
        due("e@f,a@b(,c@d", "e@f", "a@b");
        due("e@f,\"", "e@f");
        due("e@f,(", "e@f");
        due("(");
        due("\"");
    }

    private static void angles() {
        Probe.sentence("nor behind the first < of a part, up to the > behind it");
        due("<a@b>", "a@b");
        due("<a,b@c>,d@e", "d@e");
        due("<,>,a@b", "a@b");
        due("<>,a@b", "a@b");
        due("x<a@b>y", "a@b");
        due("c@d<a@b>e@f", "a@b");
        due("<a@b><c@d>,e@f", "a@b", "e@f");
        due("<a@b><c@d,e@f>", "a@b");
        due("<<a@b>>,c@d", "c@d");
        due("<a@b>,<c@d>,e@f", "a@b", "c@d", "e@f");
        due(">a@b,c@d", "c@d");
        due("><a@b>", "a@b");
    }

    private static void anglesNotClosed() {
        Probe.sentence("or the value's end (.. a < without its >: none)");
        due("<a@b");
        due("<a@b,c@d");
        due("c@d,<a@b,e@f", "c@d");
        due("a@b<");
        due("a@b<,c@d");
        due("<");
    }

    private static void leftOut() {
        Probe.sentence("Of a part, without what is in ( ): what is in < >, if there is that, else all, in both blanks and tabs left out (but within \" \")");
        due(" a @ b ", "a@b");
        due("\ta\t@\tb\t.\tc\t,d", "a@b.c");
        due("< a @ b >", "a@b");
        due("x y < a\t@ b > z", "a@b");
        due("a(x)@(y)b(z)", "a@b");
        due("<a(x)@b>", "a@b");
        due("(x) a@b (y)", "a@b");
        due("a b@c d", "ab@cd");
        due("\"a b\"@c");
        due("\"a\"@c");
        due("a@b\"\"");
        due("a\u00a0@b,a\u000b@b,a\r@b,a\n@b");
    }

    private static void none() {
        Probe.sentence("it is an address if it has the form of ADDRESS above; others are none");
        due("a");
        due("@");
        due("a@b@c");
        due("a@b_c");
        due("x:a@b");
        due("a@b;");
        due("[a@b]");
        due("<a@b;c@d>,e@f", "e@f");
        due("Aa@bB,aA@Bb", "Aa@bB", "aA@Bb");
    }
}
