/** Promises 1 to 8: a new object, declare, template, parameter, check, item, write, empty. */
public final class DeclarationTest {
    private static final Answers ANSWERS = new Answers("DeclarationTest");

    public static void main(String[] args) {
        newObject();
        declare();
        template();
        parameter();
        wellFormed();
        faultsOfLetters();
        faultsOfContent();
        orderOfFaults();
        item();
        write();
        empty();
        ANSWERS.finish();
    }

    private static void due(String what, Object got, Object want) {
        ANSWERS.due(what, got, want);
    }

    private static int checked(int verb, String template, String kindsAndLetters) {
        TemplateCaller x = Calls.declared(verb, template);
        for (int i = 0; i < kindsAndLetters.length(); i += 2) {
            x.parameter(kindsAndLetters.charAt(i) - '0', kindsAndLetters.charAt(i + 1));
        }
        return x.check();
    }

    private static void newObject() {
        TemplateCaller x = new TemplateCaller();
        due("check() of a new object", x.check(), TemplateCaller.TEMPLATE);
        due("send() of a new object", x.send(), TemplateCaller.TEMPLATE);
        due("sent(0) of a new object", x.sent(0), -1);
        due("state() of a new object", x.state(), 0);
        due("status() of a new object", x.status(), 0);
        due("fields() of a new object", x.fields(), 0);
        due("length() of a new object", x.length(), 0);
        due("content(0) of a new object", x.content(0), -1);
        due("item(0) of a new object", x.item(0), false);
        due("write(0) of a new object", x.write(0, 'a'), false);
        due("empty(0) of a new object", x.empty(0), false);
        x.template('/');
        due("send() with the first verb", x.send(), 27);
        due("the first verb", Calls.sentText(x), "GET / HTTP/1.1\r\nhost: h\r\n\r\n");
    }

    private static void declare() {
        TemplateCaller x = Calls.declared(Calls.POST, "/old");
        Calls.add(x, Calls.BODY, 'z', "abc");
        int length = x.send();
        x.feed('H');
        for (int verb : new int[] {-1, 5, Integer.MIN_VALUE, Integer.MAX_VALUE}) {
            due("declare(" + verb + ")", x.declare(verb), false);
        }
        due("a refused declare keeps the declaration", x.send(), length);
        due("declare(0)", x.declare(0), true);
        due("declare empties the template", x.check(), TemplateCaller.TEMPLATE);
        due("declare drops the parameters", x.item(0), false);
        due("declare keeps the request", x.sent(0), (int) 'P');
        due("declare keeps the request whole", Calls.sentText(x).length(), length);
        due("declare keeps the reader", Calls.fed(x, "TTP/1.1 204 \r\n\r\n"), 2);
        due("numbers begin anew", x.parameter(Calls.TEXT, 'a'), 0);
        String[] names = {"GET", "HEAD", "POST", "PUT", "DELETE"};
        for (int verb = 0; verb < 5; verb++) {
            due("declare(" + verb + ")", x.declare(verb), true);
            x.template('/');
            x.send();
            due("the name of verb " + verb, Calls.sentText(x).split(" ")[0], names[verb]);
        }
        x.declare(Calls.POST);
        x.template('/');
        x.parameter(Calls.FIELD, 'f');
        x.send();
        due("a parameter of a new declaration has no items", Calls.sentText(x).endsWith(": 0\r\n\r\n"), true);
    }

    private static void template() {
        TemplateCaller x = new TemplateCaller();
        for (char c : new char[] {0, 10, 32, 127, 128, 303, 65535}) {
            due("template(" + (int) c + ")", x.template(c), false);
        }
        due("template('/')", x.template('/'), true);
        due("check() after refused ones", x.check(), 0);
        due("template(33)", x.template((char) 33), true);
        due("template(126)", x.template((char) 126), true);
        due("check() with a !", x.check(), TemplateCaller.TEMPLATE);
        x = Calls.declared(Calls.GET, "/234567890123456789012345678901234567890".substring(0, 39));
        due("the 40th character", x.template('z'), true);
        due("the 41st character", x.template('!'), false);
        due("the target of 40", Calls.target(x), "/23456789012345678901234567890123456789z");
    }

    private static void parameter() {
        TemplateCaller x = Calls.declared(Calls.POST, "/");
        for (int kind : new int[] {-1, 6, Integer.MIN_VALUE, Integer.MAX_VALUE}) {
            due("parameter(" + kind + ")", x.parameter(kind, 'a'), TemplateCaller.BAD);
        }
        for (char letter : new char[] {0, 96, 123, 'A', 'Z', '0', 353, 65535}) {
            due("parameter(.., " + (int) letter + ")", x.parameter(2, letter), TemplateCaller.BAD);
        }
        due("refused ones leave no parameter", x.item(0), false);
        for (int k = 0; k < 6; k++) {
            due("parameter " + k, x.parameter(k, k == 0 ? 'a' : k == 5 ? 'z' : 'm'), k);
        }
        due("a seventh", x.parameter(Calls.QUERY, 'q'), TemplateCaller.FULL);
        due("a seventh of no kind", x.parameter(6, 'q'), TemplateCaller.BAD);
        due("a seventh with no letter", x.parameter(Calls.QUERY, 'Q'), TemplateCaller.BAD);
        due("no seventh", x.item(6), false);
        due("six", x.item(5), true);
    }

    private static void wellFormed() {
        String[] right = {"/", "//", "/azAZ09-._~/?=&", "/{a}", "/{+a}", "/{.a}", "/{/a}", "/{;a}", "/{?a}", "/{&a}",
            "/{a*}", "/{a:1}", "/{a:9}", "/{a,a}", "/{?a*,a:3,a}", "/{a}{a}", "/x{a}y{a:2}z"};
        for (String template : right) {
            int want = template.contains("{") ? TemplateCaller.UNKNOWN : 0;
            due("check() of " + template, checked(Calls.GET, template, ""), want);
            due("check() of " + template + " with a", checked(Calls.GET, template, want == 0 ? "" : "0a"), 0);
        }
        String[] wrong = {"", "a", "a/", "{a}", "{/a}", "?", "/{", "/}", "/{}", "/{a", "/a}", "/{+}", "/{,a}", "/{a,}",
            "/{a,,a}", "/{a:}", "/{a:0}", "/{a:10}", "/{a:a}", "/{a**}", "/{a*:1}", "/{a:1*}", "/{aa}", "/{a+}",
            "/{++a}", "/{+?a}", "/{A}", "/{1}", "/{a{a}}", "/{{a}}", "/{#a}", "/{!a}", "/{=a}", "/{a}}", "/{a},",
            "/*", "/:", "/+", "/;", "/,", "/%41", "/!", "/@", "/#", "/$", "/'", "/(", "/)", "/[", "/]", "/^", "/`",
            "/|", "/\\", "/\"", "/<", "/>", "/{a:1", "/{a:", "/{a*", "/{a,", "/{+", "/{a:1:2}", "/{a,+a}"};
        for (String template : wrong) {
            due("check() of " + template, checked(Calls.GET, template, "0a"), TemplateCaller.TEMPLATE);
        }
    }

    private static void faultsOfLetters() {
        due("no parameter of the letter", checked(0, "/{a,b}", "0a"), TemplateCaller.UNKNOWN);
        for (int kind = 0; kind < 6; kind++) {
            int want = kind < 2 ? 0 : TemplateCaller.UNKNOWN;
            due("the letter of kind " + kind, checked(2, "/{a}", kind + "a"), want);
        }
        due("a literal is no variable", checked(0, "/b{a}b", "0a"), 0);
        due("TEXT twice", checked(0, "/{a}", "0a0a"), TemplateCaller.TWICE);
        due("LIST twice", checked(0, "/{a}", "1a1a"), TemplateCaller.TWICE);
        due("TEXT and LIST, others between", checked(0, "/{a,b}", "0a2c0b1a"), TemplateCaller.TWICE);
        due("other kinds may have the letter again", checked(2, "/{a}", "2a0a3a4a4a3a"), 0);
        due("TEXT unused", checked(0, "/", "0a"), TemplateCaller.UNUSED);
        due("LIST unused", checked(0, "/{b}", "0b1a"), TemplateCaller.UNUSED);
        due("a literal is no use", checked(0, "/a", "0a"), TemplateCaller.UNUSED);
        due("a literal behind an expression is no use", checked(0, "/{b}a", "0b0a"), TemplateCaller.UNUSED);
        due("QUERY, HEADER, FIELD, BODY need no use", checked(2, "/", "2a3b4c"), 0);
        due("a cut LIST", checked(0, "/{a:1}", "1a"), TemplateCaller.CUTLIST);
        due("a LIST that is cut once", checked(0, "/{a,b:2}{;a:4}", "1a0b"), TemplateCaller.CUTLIST);
        due("a spread LIST and a cut TEXT", checked(0, "/{a*,b:2}", "1a0b"), 0);
        due("a spread TEXT", checked(0, "/{a*}", "0a"), 0);
    }

    private static void faultsOfContent() {
        for (int verb = 0; verb < 5; verb++) {
            boolean has = verb == Calls.POST || verb == Calls.PUT;
            due("BODY with verb " + verb, checked(verb, "/", "5a"), has ? 0 : TemplateCaller.NOBODY);
            due("FIELD with verb " + verb, checked(verb, "/", "4a"), has ? 0 : TemplateCaller.NOBODY);
            due("FIELDs with verb " + verb, checked(verb, "/", "4a4a"), has ? 0 : TemplateCaller.NOBODY);
            due("BODY twice with verb " + verb, checked(verb, "/", "5a5b"), TemplateCaller.MIXED);
            due("BODY, FIELD with verb " + verb, checked(verb, "/", "5a4a"), TemplateCaller.MIXED);
            due("FIELD, BODY with verb " + verb, checked(verb, "/", "4a2b5a"), TemplateCaller.MIXED);
            due("neither with verb " + verb, checked(verb, "/", "2a3a"), 0);
        }
    }

    private static void orderOfFaults() {
        due("TEMPLATE before all", checked(0, "/{c:1,b}{", "0a1a1c5x5y"), TemplateCaller.TEMPLATE);
        due("UNKNOWN before TWICE", checked(0, "/{c:1,b}", "0a1a1c5x5y"), TemplateCaller.UNKNOWN);
        due("TWICE before UNUSED", checked(0, "/{c:1}", "0a1a1c5x5y"), TemplateCaller.TWICE);
        due("UNUSED before CUTLIST", checked(0, "/{c:1}", "0a1c5x5y"), TemplateCaller.UNUSED);
        due("CUTLIST before MIXED", checked(0, "/{c:1}", "1c5x5y"), TemplateCaller.CUTLIST);
        due("MIXED before NOBODY", checked(0, "/{c}", "1c5x5y"), TemplateCaller.MIXED);
        due("NOBODY", checked(0, "/{c}", "1c5x"), TemplateCaller.NOBODY);
        due("no fault", checked(3, "/{c}", "1c5x"), 0);
        due("the letter twice, cut by the TEXT first", checked(0, "/{a:1}", "0a1a"), TemplateCaller.TWICE);
    }

    private static void item() {
        int[] most = {1, 3, 3, 3, 3, 1};
        for (int kind = 0; kind < 6; kind++) {
            TemplateCaller x = Calls.declared(Calls.GET, "/");
            int k = x.parameter(kind, 'a');
            for (int n = 0; n < most[kind]; n++) {
                due("item " + n + " of kind " + kind, x.item(k), true);
            }
            due("one more item of kind " + kind, x.item(k), false);
            due("still one more item of kind " + kind, x.item(k), false);
        }
        TemplateCaller x = Calls.declared(Calls.GET, "/");
        x.parameter(Calls.QUERY, 'a');
        for (int k : new int[] {-1, 1, 5, 6, Integer.MIN_VALUE, Integer.MAX_VALUE}) {
            due("item(" + k + ")", x.item(k), false);
        }
        due("refused ones add no item", Calls.target(x), "/");
        x.item(0);
        due("an item is empty", Calls.target(x), "/?a=");
        x.write(0, 'x');
        x.item(0);
        due("a further item is empty", Calls.target(x), "/?a=x&a=");
    }

    private static void write() {
        TemplateCaller x = Calls.declared(Calls.GET, "/");
        x.parameter(Calls.QUERY, 'a');
        x.parameter(Calls.QUERY, 'b');
        due("write without an item", x.write(0, 'x'), false);
        x.item(0);
        for (int k : new int[] {-1, 2, 6, Integer.MIN_VALUE, Integer.MAX_VALUE}) {
            due("write(" + k + ")", x.write(k, 'x'), false);
        }
        due("write where another parameter has the item", x.write(1, 'x'), false);
        for (int n = 0; n < 8; n++) {
            due("char " + n, x.write(0, (char) ('0' + n)), true);
        }
        due("the ninth char", x.write(0, '8'), false);
        x.item(0);
        due("a char of the second item", x.write(0, 'z'), true);
        due("the target", Calls.target(x), "/?a=01234567&a=z");
        due("any char", x.write(0, (char) 0) && x.write(0, (char) 65535) && x.write(0, (char) 55296), true);
    }

    private static void empty() {
        TemplateCaller x = Calls.declared(Calls.GET, "/{a}");
        Calls.add(x, Calls.TEXT, 'a', "abc");
        Calls.add(x, Calls.QUERY, 'q', "12", "3", "4");
        for (int k : new int[] {-1, 2, 6, Integer.MIN_VALUE, Integer.MAX_VALUE}) {
            due("empty(" + k + ")", x.empty(k), false);
        }
        due("before", Calls.target(x), "/abc?q=12&q=3&q=4");
        due("empty(1)", x.empty(1), true);
        due("after", Calls.target(x), "/abc");
        due("empty(1) again", x.empty(1), true);
        due("write after empty", x.write(1, 'x'), false);
        due("item after empty", x.item(1), true);
        due("the item after empty has no chars", Calls.target(x), "/abc?q=");
        due("empty(0)", x.empty(0), true);
        due("item(0) after empty", x.item(0), true);
        due("item(0) once more", x.item(0), false);
        due("empty keeps the parameter", x.parameter(Calls.QUERY, 'r'), 2);
    }
}
