import java.nio.charset.StandardCharsets;

/** Promises 9 and 10: send and sent. */
public final class RequestTest {
    private static final Answers ANSWERS = new Answers("RequestTest");

    public static void main(String[] args) {
        wholeRequests();
        sent();
        expandText();
        expandList();
        expandNamed();
        cut();
        encoding();
        looseEncoding();
        query();
        headers();
        content();
        faults();
        longest();
        keepsTheRequest();
        ANSWERS.finish();
    }

    private static void due(String what, Object got, Object want) {
        ANSWERS.due(what, got, want);
    }

    private static String expanded(String template, String... textOfA) {
        TemplateCaller x = Calls.declared(Calls.GET, template);
        Calls.add(x, Calls.TEXT, 'a', textOfA);
        return Calls.target(x);
    }

    private static String expandedList(String template, String... itemsOfL) {
        TemplateCaller x = Calls.declared(Calls.GET, template);
        Calls.add(x, Calls.LIST, 'l', itemsOfL);
        return Calls.target(x);
    }

    private static void wholeRequests() {
        TemplateCaller x = Calls.declared(Calls.PUT, "/{a}");
        Calls.add(x, Calls.TEXT, 'a', "p");
        Calls.add(x, Calls.HEADER, 'h', "u v", "", "w");
        Calls.add(x, Calls.QUERY, 'q', "1");
        Calls.add(x, Calls.BODY, 'b', "\u00e9!");
        String want = "PUT /p?q=1 HTTP/1.1\r\nhost: h\r\nx-h: u v, , w\r\ncontent-length: 3\r\n\r\n\u00c3\u00a9!";
        due("send()", x.send(), want.length());
        due("the request", Calls.sentText(x), want);
        for (int verb : new int[] {Calls.GET, Calls.HEAD, Calls.DELETE}) {
            x = Calls.declared(verb, "/");
            x.send();
            due("no content-length for " + verb, Calls.sentText(x).endsWith(" / HTTP/1.1\r\nhost: h\r\n\r\n"), true);
        }
        for (int verb : new int[] {Calls.POST, Calls.PUT}) {
            x = Calls.declared(verb, "/");
            x.send();
            due("a content-length for " + verb,
                Calls.sentText(x).endsWith(" / HTTP/1.1\r\nhost: h\r\ncontent-length: 0\r\n\r\n"), true);
        }
    }

    private static void sent() {
        TemplateCaller x = Calls.declared(Calls.POST, "/");
        Calls.add(x, Calls.BODY, 'b', "\uffff");
        due("sent before send", x.sent(0), -1);
        int length = x.send();
        due("sent(0)", x.sent(0), (int) 'P');
        due("sent of the last, as 0 .. 255", x.sent(length - 1), 191);
        due("sent behind the last", x.sent(length), -1);
        due("sent(-1)", x.sent(-1), -1);
        due("sent(1000)", x.sent(1000), -1);
        due("sent(least)", x.sent(Integer.MIN_VALUE), -1);
        due("sent(most)", x.sent(Integer.MAX_VALUE), -1);
        x.empty(0);
        due("a shorter request", x.send(), length - 3);
        due("sent behind the shorter one", x.sent(length - 3), -1);
    }

    private static void expandText() {
        due("{a}", expanded("/{a}", "x"), "/x");
        due("{a} undefined", expanded("/{a}"), "/");
        due("{a} empty", expanded("/{a}", ""), "/");
        due("{a,a}", expanded("/{a,a}", "x"), "/x,x");
        due("{a,a} empty", expanded("/{a,a}", ""), "/,");
        due("{+a}", expanded("/{+a,a}", "x"), "/x,x");
        due("{.a}", expanded("/b{.a,a}", "x"), "/b.x.x");
        due("{.a} empty", expanded("/b{.a}", ""), "/b.");
        due("{.a} undefined", expanded("/b{.a}"), "/b");
        due("{/a}", expanded("/b{/a,a}", "x"), "/b/x/x");
        due("{/a} empty", expanded("/b{/a,a}", ""), "/b//");
        due("literals", expanded("/Az09-._~/?=&{a}!".substring(0, 16), "x"), "/Az09-._~/?=&x");
        due("{a*}", expanded("/{a*}", "x"), "/x");
        TemplateCaller x = Calls.declared(Calls.GET, "/{/a,b,c}{?a,b,c}{b}{.b,a}");
        Calls.add(x, Calls.TEXT, 'a');
        Calls.add(x, Calls.TEXT, 'b', "y");
        Calls.add(x, Calls.LIST, 'c');
        due("the undefined give nothing", Calls.target(x), "//y?b=yy.y");
    }

    private static void expandList() {
        due("{l}", expandedList("/{l}", "x", "y", "z"), "/x,y,z");
        due("{l} none", expandedList("/{l}{/l}{?l}"), "/");
        due("{l} empty ones", expandedList("/{l}", "", "", ""), "/,,");
        due("{l*}", expandedList("/{l*}", "x", "y"), "/x,y");
        due("{+l*}", expandedList("/{+l*}", "x", "y"), "/x,y");
        due("{.l}", expandedList("/{.l}", "x", "y"), "/.x,y");
        due("{.l*}", expandedList("/{.l*}", "x", "", "y"), "/.x..y");
        due("{/l}", expandedList("/{/l}", "x", "y"), "//x,y");
        due("{/l*}", expandedList("/{/l*,l}", "x", "y"), "//x/y/x,y");
        due("{l} with commas in items", expandedList("/{l}", ",", ","), "/%2C,%2C");
        due("{+l} with commas in items", expandedList("/{+l}", ",", ","), "/,,,");
    }

    private static void expandNamed() {
        due("{;a}", expanded("/{;a}", "x"), "/;a=x");
        due("{;a} empty", expanded("/{;a}", ""), "/;a");
        due("{;a*} empty", expanded("/{;a*}", ""), "/;a");
        due("{?a}", expanded("/{?a,a}", "x"), "/?a=x&a=x");
        due("{?a} empty", expanded("/{?a}", ""), "/?a=");
        due("{&a}", expanded("/{&a,a}", "x"), "/&a=x&a=x");
        due("{&a} empty", expanded("/{&a}", ""), "/&a=");
        due("{;a,a}", expanded("/{;a,a}", "x"), "/;a=x;a=x");
        due("{;l}", expandedList("/{;l}", "x", "y"), "/;l=x,y");
        due("{;l*}", expandedList("/{;l*}", "x", "", "y"), "/;l=x;l;l=y");
        due("{;l} of one empty", expandedList("/{;l}", ""), "/;l");
        due("{;l} of two empty", expandedList("/{;l}", "", ""), "/;l=,");
        due("{?l} of one empty", expandedList("/{?l}", ""), "/?l=");
        due("{?l} of two empty", expandedList("/{?l}", "", ""), "/?l=,");
        due("{?l*}", expandedList("/{?l*}", "x", "", "y"), "/?l=x&l=&l=y");
        due("{&l*}", expandedList("/{&l*}", "", "y"), "/&l=&l=y");
        due("{?l*,l}", expandedList("/{?l*,l}", "x", "y"), "/?l=x&l=y&l=x,y");
        due("{?a} undefined", expanded("/{?a}"), "/");
    }

    private static void cut() {
        due("{a:1}", expanded("/{a:1}", "xyz"), "/x");
        due("{a:3}", expanded("/{a:3}", "xyz"), "/xyz");
        due("{a:9}", expanded("/{a:9}", "01234567"), "/01234567");
        due("{a:8}", expanded("/{a:8}{a:7}", "01234567"), "/012345670123456");
        due("{a:2} empty", expanded("/{;a:2}", ""), "/;a");
        due("{?a:2}", expanded("/{?a:2,a}", "xyz"), "/?a=xy&a=xyz");
        due("a pair counts once", expanded("/{a:2}", "\ud83d\ude00xy"), "/%F0%9F%98%80x");
        due("a pair last", expanded("/{a:1}", "\ud83d\ude00\ud83d\ude01"), "/%F0%9F%98%80");
        due("escapes count as three", expanded("/{+a:3}", "%41b"), "/%41");
        due("a cut escape is none", expanded("/{+a:2}", "%41b"), "/%254");
        due("a cut escape is none", expanded("/{+a:1}", "%41b"), "/%25");
        due("cut chars that would be encoded", expanded("/{a:2}", "//b"), "/%2F%2F");
    }

    private static void encoding() {
        StringBuilder kept = new StringBuilder();
        for (int c = 0; c < 128; c++) {
            String target = expanded("/{a}", String.valueOf((char) c));
            if (target.equals("/" + (char) c)) {
                kept.append((char) c);
            } else {
                due("char " + c + " encoded", target, String.format("/%%%02X", c));
            }
        }
        due("the unreserved", kept.toString(),
            "-.0123456789ABCDEFGHIJKLMNOPQRSTUVWXYZ_abcdefghijklmnopqrstuvwxyz~");
        String[] others = {"\u007f", "\u0080", "\u00ff", "\u0100", "\u07ff", "\u0800", "\u20ac", "\ud7ff", "\ue000",
            "\uffff", "\ud800\udc00", "\udbff\udfff", "\ud83d\ude00", "\ud800\udfff", "\udbff\udc00"};
        for (String other : others) {
            StringBuilder want = new StringBuilder("/");
            for (byte b : other.getBytes(StandardCharsets.UTF_8)) {
                want.append(String.format("%%%02X", b & 255));
            }
            due("encoded " + want, expanded("/{a}", other), want.toString());
            due("loosely " + want, expanded("/{+a}", other), want.toString());
        }
        due("a %XX is encoded too", expanded("/{a}", "%2F"), "/%252F");
    }

    private static void looseEncoding() {
        StringBuilder kept = new StringBuilder();
        for (int c = 0; c < 128; c++) {
            String target = expanded("/{+a}", String.valueOf((char) c));
            if (target.equals("/" + (char) c)) {
                kept.append((char) c);
            } else {
                due("char " + c + " loosely", target, String.format("/%%%02X", c));
            }
        }
        due("those kept loosely", kept.toString(),
            "!$&'()*+,-./0123456789:;=?@ABCDEFGHIJKLMNOPQRSTUVWXYZ_abcdefghijklmnopqrstuvwxyz~");
        due("%2F", expanded("/{+a}", "%2F"), "/%2F");
        due("%aF at the end", expanded("/{+a}", "xyz%aF"), "/xyz%aF");
        due("%fA", expanded("/{+a}", "%fA%90"), "/%fA%90");
        due("%0A", expanded("/{+a}", "%0A%00"), "/%0A%00");
        due("%gA", expanded("/{+a}", "%gA"), "/%25gA");
        due("%AG", expanded("/{+a}", "%AG"), "/%25AG");
        due("%@1", expanded("/{+a}", "%@1%:1"), "/%25@1%25:1");
        due("%`1", expanded("/{+a}", "%`1"), "/%25%601");
        due("%1", expanded("/{+a}", "%1"), "/%251");
        due("%", expanded("/{+a}", "%"), "/%25");
        due("%%41", expanded("/{+a}", "%%41"), "/%25%41");
        due("%4%41", expanded("/{+a}", "%4%41"), "/%254%41");
        due("digits of the next item do not count", expandedList("/{+l}", "%", "41"), "/%25,41");
        due("digits in a template do not count", expanded("/{+a}41", "%"), "/%2541");
        for (String operator : new String[] {"", ".", "/", ";", "?", "&"}) {
            due("not loose with " + operator, expanded("/{" + operator + "a}", "/").endsWith("%2F"), true);
        }
    }

    private static void query() {
        TemplateCaller x = Calls.declared(Calls.GET, "/");
        Calls.add(x, Calls.QUERY, 'q', "a b", "", "&=");
        Calls.add(x, Calls.QUERY, 'r');
        Calls.add(x, Calls.QUERY, 'q', "+%41");
        due("query", Calls.target(x), "/?q=a%20b&q=&q=%26%3D&q=%2B%2541");
        x = Calls.declared(Calls.GET, "/?");
        Calls.add(x, Calls.QUERY, 'q', "1");
        due("a ? in the template", Calls.target(x), "/?&q=1");
        x = Calls.declared(Calls.GET, "/{+p}");
        Calls.add(x, Calls.QUERY, 'q', "1");
        Calls.add(x, Calls.TEXT, 'p', "?");
        due("a ? of a loose item", Calls.target(x), "/?&q=1");
        x = Calls.declared(Calls.GET, "/{p}");
        Calls.add(x, Calls.QUERY, 'q', "1");
        Calls.add(x, Calls.TEXT, 'p', "?");
        due("a ? that is encoded", Calls.target(x), "/%3F?q=1");
        x = Calls.declared(Calls.GET, "/{?p}");
        Calls.add(x, Calls.QUERY, 'q', "1", "2");
        Calls.add(x, Calls.TEXT, 'p');
        due("an expression that gives nothing", Calls.target(x), "/?q=1&q=2");
        x.item(1);
        due("an expression that gives a ?", Calls.target(x), "/?p=&q=1&q=2");
    }

    private static void headers() {
        TemplateCaller x = Calls.declared(Calls.GET, "/");
        Calls.add(x, Calls.HEADER, 'b', "~!", "c d");
        Calls.add(x, Calls.HEADER, 'n');
        Calls.add(x, Calls.HEADER, 'a', "");
        Calls.add(x, Calls.HEADER, 'b', "%?,");
        x.send();
        due("headers", Calls.sentText(x),
            "GET / HTTP/1.1\r\nhost: h\r\nx-b: ~!, c d\r\nx-a: \r\nx-b: %?,\r\n\r\n");
    }

    private static void content() {
        due("BODY", sentContent(Calls.BODY, "a \u00e9\u20ac\ud83d\ude00"),
            "11 a \u00c3\u00a9\u00e2\u0082\u00ac\u00f0\u009f\u0098\u0080");
        due("BODY, all bytes of a line", sentContent(Calls.BODY, "\r\n%\0"), "4 \r\n%\0");
        due("BODY empty", sentContent(Calls.BODY, ""), "0 ");
        due("BODY none", sentContent(Calls.BODY), "0 ");
        due("FIELD", sentContent(Calls.FIELD, "a b", "", "+&~"), "18 f=a+b&f=&f=%2B%26~");
        due("FIELD, not loosely", sentContent(Calls.FIELD, "%41\u00e9"), "13 f=%2541%C3%A9");
        due("FIELD none", sentContent(Calls.FIELD), "0 ");
        TemplateCaller x = Calls.declared(Calls.PUT, "/");
        Calls.add(x, Calls.FIELD, 'a');
        Calls.add(x, Calls.FIELD, 'b', "1");
        Calls.add(x, Calls.QUERY, 'q', "5 6");
        Calls.add(x, Calls.FIELD, 'a', "2", "3");
        x.send();
        due("FIELDs", Calls.sentText(x),
            "PUT /?q=5%206 HTTP/1.1\r\nhost: h\r\ncontent-length: 11\r\n\r\nb=1&a=2&a=3");
        String euros = "\u20ac".repeat(8);
        due("a content of 74 + 75 bytes", sentContent(Calls.FIELD, euros, euros).substring(0, 6), "149 f=");
    }

    /** The content's length as the request tells it, a space, the content. */
    private static String sentContent(int kind, String... items) {
        TemplateCaller x = Calls.declared(Calls.POST, "/");
        Calls.add(x, kind, 'f', items);
        x.send();
        String request = Calls.sentText(x);
        String line = "content-length: ";
        int from = request.indexOf(line) + line.length();
        int end = request.indexOf("\r\n\r\n");
        return request.substring(from, end) + " " + request.substring(end + 4);
    }

    private static void faults() {
        String[] lone = {"\ud800", "\udc00", "\udbff", "\udfff", "a\ud800", "\ud800a", "\ud800\ud800\udc00",
            "\ud800\udc00\udc00", "\udc00\ud800", "\ud800\udc00\ud800", "abcdefg\ud800", "\udc00\udc00",
            "\ud800\ue000", "\ud7ff\udc00"};
        for (int kind = 0; kind < 6; kind++) {
            for (String item : lone) {
                TemplateCaller x = Calls.declared(Calls.POST, kind < 2 ? "/{a}" : "/");
                Calls.add(x, kind, 'a', item);
                due("a lone char of kind " + kind, x.send(), TemplateCaller.LONE);
                due("no request after LONE", x.sent(0), -1);
            }
        }
        due("a lone char that is cut off", expanded("/{a:1}", "x\ud800"), "-8");
        due("a lone char of a later item", expandedList("/{l}", "x", "y", "\udc00"), "-8");
        due("a high and a low char in two items", expandedList("/{l}", "\ud800", "\udc00"), "-8");
        due("just outside", expanded("/{a}", "\ud7ff\ue000"), "/%ED%9F%BF%EE%80%80");
        for (String item : new String[] {"\t", "\u001f", "\u007f", "\u00e9", "\ud800\udc00", "a\r\nb", " a", "a ", " ",
            "\0", "a\uffff"}) {
            TemplateCaller x = Calls.declared(Calls.GET, "/");
            Calls.add(x, Calls.HEADER, 'h', "ok", item);
            due("unfit <" + item + ">", x.send(), TemplateCaller.UNFIT);
            Calls.add(x, Calls.QUERY, 'q', "\ud800");
            due("LONE before UNFIT", x.send(), TemplateCaller.LONE);
            x.template('{');
            due("the declaration's fault before LONE", x.send(), TemplateCaller.TEMPLATE);
        }
        TemplateCaller x = Calls.declared(Calls.GET, "/");
        Calls.add(x, Calls.QUERY, 'q', " a ", "\t", "\u00e9");
        due("other kinds hold what is unfit for a header", Calls.target(x), "/?q=%20a%20&q=%09&q=%C3%A9");
        for (int verb = 0; verb < 5; verb++) {
            x = Calls.declared(verb, "/");
            Calls.add(x, Calls.BODY, 'b', "\ud800");
            due("send() with verb " + verb, x.send(), Calls.POST == verb || Calls.PUT == verb
                ? TemplateCaller.LONE : TemplateCaller.NOBODY);
        }
    }

    /** Declares a request of 1000 bytes; a further character of the template makes it longer. */
    private static TemplateCaller ofThousandBytes() {
        TemplateCaller x = Calls.declared(Calls.POST, "/x");
        String euros = "\u20ac".repeat(8);
        for (int n = 0; n < 4; n++) {
            Calls.add(x, Calls.FIELD, 'f', euros, euros, euros);
        }
        Calls.add(x, Calls.FIELD, 'g', "\u20ac".repeat(4) + "////");
        return x;
    }

    private static void longest() {
        TemplateCaller x = ofThousandBytes();
        due("a request of 1000 bytes", x.send(), 1000);
        due("its last byte", x.sent(999), (int) 'F');
        due("none behind it", x.sent(1000), -1);
        x.template('y');
        due("a request of 1001 bytes", x.send(), TemplateCaller.LONG);
        due("the request of 1000 bytes stays", x.sent(999), (int) 'F');
        due("as it was", x.sent(7), (int) ' ');
        x = Calls.declared(Calls.GET, "/{l,l,l,l,l,l,l,l,l,l,l,l,l,l,l,l,l,l}");
        String euros = "\u20ac".repeat(8);
        Calls.add(x, Calls.LIST, 'l', euros, euros, euros);
        Calls.add(x, Calls.QUERY, 'q', euros, euros, euros);
        Calls.add(x, Calls.HEADER, 'h', "a");
        due("a target far too long", x.send(), TemplateCaller.LONG);
        due("no request", x.sent(0), -1);
        x.write(2, ' ');
        due("UNFIT before LONG", x.send(), TemplateCaller.UNFIT);
        x = Calls.declared(Calls.POST, "/");
        for (int n = 0; n < 6; n++) {
            Calls.add(x, Calls.FIELD, 'f', euros, euros, euros);
        }
        due("a content too long", x.send(), TemplateCaller.LONG);
    }

    private static void keepsTheRequest() {
        TemplateCaller x = Calls.declared(Calls.GET, "/{l,l,l,l,l,l,l,l,l,l,l,l,l,l,l,l,l,l}");
        Calls.add(x, Calls.LIST, 'l', "1");
        Calls.add(x, Calls.HEADER, 'h', "a");
        x.send();
        String made = Calls.sentText(x);
        String euros = "\u20ac".repeat(8);
        Calls.addItem(x, 0, euros);
        Calls.addItem(x, 0, euros);
        due("LONG", x.send(), TemplateCaller.LONG);
        due("the request stays after LONG", Calls.sentText(x), made);
        due("LONG again", x.send(), TemplateCaller.LONG);
        due("the request stays after LONG again", Calls.sentText(x), made);
        x.write(1, '\n');
        due("UNFIT", x.send(), TemplateCaller.UNFIT);
        due("the request stays after UNFIT", Calls.sentText(x), made);
        x.write(1, '\udfff');
        due("LONE", x.send(), TemplateCaller.LONE);
        due("the request stays after LONE", Calls.sentText(x), made);
        x = Calls.declared(Calls.GET, "/");
        x.send();
        made = Calls.sentText(x);
        x.parameter(Calls.BODY, 'b');
        due("NOBODY", x.send(), TemplateCaller.NOBODY);
        due("the request stays after NOBODY", Calls.sentText(x), made);
        due("the reader knows nothing of it", x.state() + x.status() + x.fields() + x.length(), 0);
        x.reset();
        due("the request stays after reset", Calls.sentText(x), made);
        x = Calls.declared(Calls.GET, "/");
        x.send();
        Calls.addTemplate(x, "abc");
        due("the request stays until send", Calls.sentText(x).startsWith("GET / "), true);
        x.send();
        due("a new request", Calls.sentText(x).startsWith("GET /abc "), true);
    }
}
