import java.nio.charset.StandardCharsets;

/**
 * The boundary cases of a request, a sentence of the document each: Terms, and promises 9 and 10.
 */
public final class RequestEdgesTest {
    private static final Answers ANSWERS = new Answers("RequestEdgesTest");
    private static final String EUROS = "\u20ac".repeat(8);
    private static final String[] OPERATORS = {"", "+", ".", "/", ";", "?", "&"};
    private static final String HEX = "0123456789abcdefABCDEF";

    public static void main(String[] args) {
        highAndLow();
        pairs();
        oneChar();
        twoOrThreeBytes();
        fourBytes();
        unreserved();
        looseMarks();
        looseEscapes();
        looseEscapesAtTheEnd();
        looseEscapesWhereCut();
        form();
        noVariableDefined();
        startAndBreak();
        eachExpressionStartsAnew();
        cutLengths();
        cutPairs();
        notSpread();
        oneItemThatGivesNothing();
        spread();
        verbNames();
        headersWithoutItems();
        contentLength();
        contentLengthDigits();
        queryMark();
        queryWithoutItems();
        noContent();
        body();
        fields();
        lone();
        unfit();
        orderOfFaults();
        thousandBytes();
        requestStays();
        sentRange();
        sentOfAShorterOne();
        ANSWERS.finish();
    }

    private static void sentence(String words) {
        ANSWERS.sentence(words);
    }

    private static void due(String what, Object got, Object want) {
        ANSWERS.due(what, got, want);
    }

    /** What the template becomes with a TEXT a that has the item. */
    private static String expanded(String template, String item) {
        TemplateCaller x = Calls.declared(Calls.GET, template);
        Calls.add(x, Calls.TEXT, 'a', item);
        return Calls.target(x);
    }

    /** What the expression becomes with a LIST l that has the items. */
    private static String listed(String expression, String... items) {
        TemplateCaller x = Calls.declared(Calls.GET, "/" + expression);
        Calls.add(x, Calls.LIST, 'l', items);
        return Calls.target(x).substring(1);
    }

    private static int sentQuery(String... items) {
        TemplateCaller x = Calls.declared(Calls.GET, "/");
        Calls.add(x, Calls.QUERY, 'q', items);
        return Math.min(0, x.send());
    }

    private static String escaped(String text) {
        StringBuilder escaped = new StringBuilder();
        for (byte b : text.getBytes(StandardCharsets.UTF_8)) {
            escaped.append(String.format("%%%02X", b & 255));
        }
        return escaped.toString();
    }

    /** Of a POST or PUT that was made: the number that it tells, a space, the content. */
    private static String contentOf(TemplateCaller x) {
        x.send();
        String request = Calls.sentText(x);
        int from = request.indexOf("content-length: ") + 16;
        int end = request.indexOf("\r\n\r\n");
        return request.substring(from, end) + " " + request.substring(end + 4);
    }

    private static String bodyOf(String item) {
        TemplateCaller x = Calls.declared(Calls.PUT, "/");
        Calls.add(x, Calls.BODY, 'b', item);
        return contentOf(x);
    }

    // Chars and bytes.

    private static void highAndLow() {
        sentence("HIGH chars are 55296 .. 56319, LOW ones 56320 .. 57343.");
        for (int c = 0; c <= 65535; c++) {
            boolean alone = c >= 55296 && c <= 57343;
            due("char " + c + " alone", sentQuery(String.valueOf((char) c)), alone ? TemplateCaller.LONE : 0);
        }
        int[] edges = {55295, 55296, 55297, 56318, 56319, 56320, 56321, 57342, 57343, 57344};
        for (int one : edges) {
            for (int other : edges) {
                boolean pair = one >= 55296 && one <= 56319 && other >= 56320 && other <= 57343;
                boolean outside = (one == 55295 || one == 57344) && (other == 55295 || other == 57344);
                int want = pair || outside ? 0 : TemplateCaller.LONE;
                due(one + " and " + other, sentQuery(new String(new char[] {(char) one, (char) other})), want);
            }
        }
    }

    private static void pairs() {
        sentence("In an item a high char with a low one directly behind it is a PAIR;"
            + " high and low chars that are in no pair are LONE.");
        String high = "\ud800";
        String low = "\udfff";
        String[] right = {high + low, high + low + high + low, "a" + high + low + "b", "123456" + high + low,
            (high + low).repeat(4)};
        for (String item : right) {
            due("an item with pairs alone", sentQuery(item), 0);
        }
        String[] wrong = {high, low, low + high, high + high + low, high + low + low, high + "a" + low,
            high + low + high, low + high + low, "1234567" + high, "1234567" + low, (high + low).repeat(3) + high + "a"};
        for (String item : wrong) {
            due("an item with a lone char", sentQuery(item), TemplateCaller.LONE);
        }
        due("a high and a low char of two items", sentQuery(high, low), TemplateCaller.LONE);
        due("a low char that did not fit", sentQuery("1234567" + high + low), TemplateCaller.LONE);
    }

    private static void oneChar() {
        sentence("a char up to 127 itself; up to 2047: 192 + its bits from the 7th on, 128 + its lowest six bits");
        due("0", bodyOf("\0"), "1 \0");
        due("126, 127", bodyOf("~\u007f"), "2 ~\u007f");
        due("128", bodyOf("\u0080"), "2 \u00c2\u0080");
        due("191, 192", bodyOf("\u00bf\u00c0"), "4 \u00c2\u00bf\u00c3\u0080");
        due("2047", bodyOf("\u07ff"), "2 \u00df\u00bf");
        due("127 encoded", expanded("/{a}", "\u007f"), "/%7F");
        due("128 encoded", expanded("/{a}", "\u0080"), "/%C2%80");
        due("2047 encoded", expanded("/{a}", "\u07ff"), "/%DF%BF");
    }

    private static void twoOrThreeBytes() {
        sentence("other chars: 224 + the bits from the 13th on, 128 + the six bits below, 128 + the lowest six");
        due("2048", bodyOf("\u0800"), "3 \u00e0\u00a0\u0080");
        due("4095, 4096", bodyOf("\u0fff\u1000"), "6 \u00e0\u00bf\u00bf\u00e1\u0080\u0080");
        due("55295", bodyOf("\ud7ff"), "3 \u00ed\u009f\u00bf");
        due("57344", bodyOf("\ue000"), "3 \u00ee\u0080\u0080");
        due("65535", bodyOf("\uffff"), "3 \u00ef\u00bf\u00bf");
        due("65535, eight times", bodyOf("\uffff".repeat(8)), "24 " + "\u00ef\u00bf\u00bf".repeat(8));
        due("2048 encoded", expanded("/{a}", "\u0800"), "/%E0%A0%80");
        due("65535 encoded", expanded("/{a}", "\uffff"), "/%EF%BF%BF");
    }

    private static void fourBytes() {
        sentence("a pair stands for v = 65536 + 1024 (high - 55296) + (low - 56320)");
        due("65536", bodyOf("\ud800\udc00"), "4 \u00f0\u0090\u0080\u0080");
        due("66559", bodyOf("\ud800\udfff"), "4 \u00f0\u0090\u008f\u00bf");
        due("66560", bodyOf("\ud801\udc00"), "4 \u00f0\u0090\u0090\u0080");
        due("262143", bodyOf("\ud8bf\udfff"), "4 \u00f0\u00bf\u00bf\u00bf");
        due("262144", bodyOf("\ud8c0\udc00"), "4 \u00f1\u0080\u0080\u0080");
        due("1114111", bodyOf("\udbff\udfff"), "4 \u00f4\u008f\u00bf\u00bf");
        due("1113088", bodyOf("\udbff\udc00"), "4 \u00f4\u008f\u00b0\u0080");
        due("four pairs", bodyOf("\udbff\udfff".repeat(4)), "16 " + "\u00f4\u008f\u00bf\u00bf".repeat(4));
        due("encoded", expanded("/{a}", "\ud800\udc00\udbff\udfff"), "/%F0%90%80%80%F4%8F%BF%BF");
        due("loosely", expanded("/{+a}", "\ud800\udc00\udbff\udfff"), "/%F0%90%80%80%F4%8F%BF%BF");
    }

    // The ways to encode.

    private static void unreserved() {
        sentence("an unreserved one stands for itself; each byte of the others' UTF-8 becomes %XX");
        for (int c = 0; c <= 300; c++) {
            String item = String.valueOf((char) c);
            String want = item.matches("[a-zA-Z0-9._~-]") ? item : escaped(item);
            due("char " + c, expanded("/{a}", item), "/" + want);
            due("char " + c + ", a QUERY item", queried("/", item), "/?q=" + want);
        }
        due("an escape is none here", expanded("/{a}", "%41%"), "/%2541%25");
    }

    private static String queried(String template, String... items) {
        TemplateCaller x = Calls.declared(Calls.GET, template);
        Calls.add(x, Calls.QUERY, 'q', items);
        return Calls.target(x);
    }

    private static void looseMarks() {
        sentence("likewise, but these stand for themselves too: : / ? @ ! $ & ' ( ) * + , ; =");
        for (int c = 0; c <= 300; c++) {
            String item = String.valueOf((char) c);
            boolean kept = item.matches("[a-zA-Z0-9._~:/?@!$&'()*+,;=-]");
            due("char " + c, expanded("/{+a}", item), "/" + (kept ? item : escaped(item)));
        }
    }

    private static void looseEscapes() {
        sentence("and a % behind which two hexadecimal digits (0 .. 9, a .. f, A .. F) stand directly in the row");
        for (char one = 32; one <= 127; one++) {
            for (char other = 32; other <= 127; other++) {
                boolean digits = HEX.indexOf(one) >= 0 && HEX.indexOf(other) >= 0;
                String target = expanded("/{+a}", "%" + one + other);
                due("%" + one + other, target.startsWith("/%25"), !digits || one == '2' && other == '5');
                if (digits) {
                    due("%" + one + other, target, "/%" + one + other);
                }
            }
        }
        due("chars whose low byte is a digit", expanded("/{+a}", "%\u0141\u0142"), "/%25%C5%81%C5%82");
        due("a % twice", expanded("/{+a}", "%%41"), "/%25%41");
        due("a % between", expanded("/{+a}", "%4%41"), "/%254%41");
        due("an escape of a %", expanded("/{+a}", "%2541"), "/%2541");
        due("a char between", expanded("/{+a}", "%-41"), "/%25-41");
    }

    private static void looseEscapesAtTheEnd() {
        sentence("and a % behind which two hexadecimal digits (0 .. 9, a .. f, A .. F) stand directly in the row");
        due("no digit behind", expanded("/{+a}", "%"), "/%25");
        due("one digit behind", expanded("/{+a}", "%4"), "/%254");
        due("as the sixth of eight", expanded("/{+a}", "12345%41"), "/12345%41");
        due("as the seventh of eight", expanded("/{+a}", "123456%4"), "/123456%254");
        due("as the eighth", expanded("/{+a}", "1234567%"), "/1234567%25");
        due("digits of the next item", listed("{+l}", "%", "41"), "%25,41");
        due("digits of the next item, spread", listed("{+l*}", "%4", "1"), "%254,1");
        due("digits of the template", expanded("/{+a}41", "%"), "/%2541");
        TemplateCaller x = Calls.declared(Calls.GET, "/{+a}");
        Calls.add(x, Calls.TEXT, 'a', "%41");
        due("digits that are there", Calls.target(x), "/%41");
        x.empty(0);
        Calls.addItem(x, 0, "%");
        due("digits of an argument that is gone", Calls.target(x), "/%25");
    }

    private static void looseEscapesWhereCut() {
        sentence("is cut, only the first characters of the item count, as many as the digit says");
        due("cut behind the %", expanded("/{+a:1}", "%41"), "/%25");
        due("cut behind one digit", expanded("/{+a:2}", "%41"), "/%254");
        due("cut behind both digits", expanded("/{+a:3}", "%41"), "/%41");
        due("cut later", expanded("/{+a:4}", "%4142"), "/%414");
        due("cut behind a pair and a %", expanded("/{+a:2}", "\ud83d\ude00%41"), "/%F0%9F%98%80%25");
        due("cut behind a pair and one digit", expanded("/{+a:3}", "\ud83d\ude00%41"), "/%F0%9F%98%80%254");
        due("cut behind a pair and an escape", expanded("/{+a:4}", "\ud83d\ude00%41"), "/%F0%9F%98%80%41");
        due("the last escape, cut to 8", expanded("/{+a:8}", "12345%41"), "/12345%41");
        due("the last escape, cut to 7", expanded("/{+a:7}", "12345%41"), "/12345%254");
        due("the last escape, cut to 9", expanded("/{+a:9}", "12345%41"), "/12345%41");
        due("not loosely", expanded("/{a:3}", "%41"), "/%2541");
    }

    private static void form() {
        sentence("ENCODED AS A FORM: as encoded, but a space becomes +.");
        for (int c = 0; c <= 300; c++) {
            String item = String.valueOf((char) c);
            String want = c == 32 ? "+" : item.matches("[a-zA-Z0-9._~-]") ? item : escaped(item);
            TemplateCaller x = Calls.declared(Calls.POST, "/");
            Calls.add(x, Calls.FIELD, 'f', item);
            due("char " + c, contentOf(x), want.length() + 2 + " f=" + want);
        }
        due("a space in a path", expanded("/{a}", " "), "/%20");
        due("a space in a path, loosely", expanded("/{+a}", " +"), "/%20+");
        due("a space in a query", queried("/", " +"), "/?q=%20%2B");
        due("spaces in a field", fieldOf(" ", "  ", "+ +"), "18 f=+&f=++&f=%2B+%2B");
    }

    private static String fieldOf(String... items) {
        TemplateCaller x = Calls.declared(Calls.POST, "/");
        Calls.add(x, Calls.FIELD, 'f', items);
        return contentOf(x);
    }

    // Expansion.

    private static void noVariableDefined() {
        sentence("Of an expression the variables whose parameter has items are DEFINED; none is: nothing.");
        for (String operator : OPERATORS) {
            for (String variables : new String[] {"a", "a*", "a:1", "a,a", "a,l", "l,a:9,l*"}) {
                TemplateCaller x = Calls.declared(Calls.GET, "/x{" + operator + variables + "}y{l,a}");
                Calls.add(x, Calls.TEXT, 'a');
                Calls.add(x, Calls.LIST, 'l');
                due("{" + operator + variables + "}", Calls.target(x), "/xy");
            }
        }
    }

    private static void startAndBreak() {
        sentence("with the operator's START before the first and its BREAK between two");
        String[] onlyA = {"1", "1", ".1", "/1", ";a=1", "?a=1", "&a=1"};
        String[] onlyB = {"2", "2", ".2", "/2", ";b=2", "?b=2", "&b=2"};
        String[] both = {"1,2", "1,2", ".1.2", "/1/2", ";a=1;b=2", "?a=1&b=2", "&a=1&b=2"};
        String[] empty = {",", ",", "..", "//", ";a;b", "?a=&b=", "&a=&b="};
        String[] thrice = {"1,2,1", "1,2,1", ".1.2.1", "/1/2/1", ";a=1;b=2;a=1", "?a=1&b=2&a=1", "&a=1&b=2&a=1"};
        for (int i = 0; i < OPERATORS.length; i++) {
            String variables = OPERATORS[i] + "a,b";
            due("both of " + variables, twoGiven(variables, "1", "2"), both[i]);
            due("the first of " + variables, twoGiven(variables, "1", null), onlyA[i]);
            due("the second of " + variables, twoGiven(variables, null, "2"), onlyB[i]);
            due("both empty of " + variables, twoGiven(variables, "", ""), empty[i]);
            due("none of " + variables, twoGiven(variables, null, null), "");
            due("three of " + variables, twoGiven(variables + ",a", "1", "2"), thrice[i]);
            due("the middle one of " + variables, twoGiven(variables + ",a", null, "2"), onlyB[i]);
        }
    }

    private static void eachExpressionStartsAnew() {
        sentence("Else what the defined ones give in their order, with the operator's START before the first");
        String[] once = {"1", "1", ".1", "/1", ";a=1", "?a=1", "&a=1"};
        for (int i = 0; i < OPERATORS.length; i++) {
            for (int j = 0; j < OPERATORS.length; j++) {
                String template = "/{" + OPERATORS[i] + "a}{" + OPERATORS[j] + "a}x{" + OPERATORS[i] + "a}";
                due(template, expanded(template, "1"), "/" + once[i] + once[j] + "x" + once[i]);
            }
        }
    }

    private static String twoGiven(String variables, String itemOfA, String itemOfB) {
        TemplateCaller x = Calls.declared(Calls.GET, "/{" + variables + "}");
        x.parameter(Calls.TEXT, 'a');
        x.parameter(Calls.TEXT, 'b');
        if (itemOfA != null) {
            Calls.addItem(x, 0, itemOfA);
        }
        if (itemOfB != null) {
            Calls.addItem(x, 1, itemOfB);
        }
        return Calls.target(x).substring(1);
    }

    private static void cutLengths() {
        sentence("is cut, only the first characters of the item count, as many as the digit says");
        for (int digit = 1; digit <= 9; digit++) {
            for (int size = 0; size <= 8; size++) {
                String item = "abcdefgh".substring(0, size);
                String want = item.substring(0, Math.min(digit, size));
                due("{a:" + digit + "} of " + size, expanded("/{a:" + digit + "}", item), "/" + want);
                due("{?a:" + digit + "} of " + size, expanded("/{?a:" + digit + "}", item), "/?a=" + want);
                due("{;a:" + digit + "} of " + size, expanded("/{;a:" + digit + "}", item),
                    "/;a" + (size == 0 ? "" : "=") + want);
            }
        }
        due("cut for one variable alone", expanded("/{a:2,a,a:1}", "abc"), "/ab,abc,a");
    }

    private static void cutPairs() {
        sentence("A CHARACTER is a pair, or a char that is in none.");
        String pair = "\ud83d\ude00";
        String bytes = "%F0%9F%98%80";
        for (int digit = 1; digit <= 9; digit++) {
            int pairs = Math.min(digit, 4);
            due("four pairs cut to " + digit, expanded("/{a:" + digit + "}", pair.repeat(4)), "/" + bytes.repeat(pairs));
        }
        due("a pair behind a char", expanded("/{a:1}", "x" + pair), "/x");
        due("a pair behind a char, whole", expanded("/{a:2}", "x" + pair + "y"), "/x" + bytes);
        due("a pair at the end", expanded("/{a:7}", "123456" + pair), "/123456" + bytes);
        due("a pair at the end, cut off", expanded("/{a:6}", "123456" + pair), "/123456");
        due("a char of three bytes", expanded("/{a:1}", "\u20ac\u20ac"), "/%E2%82%AC");
    }

    private static void notSpread() {
        sentence("The variable gives, when it is not spread: its items (each encoded) with commas between them");
        String[] one = {"x", "x", ".x", "/x", ";l=x", "?l=x", "&l=x"};
        String[] three = {"x,%2C,z", "x,,,z", ".x,%2C,z", "/x,%2C,z", ";l=x,%2C,z", "?l=x,%2C,z", "&l=x,%2C,z"};
        String[] empty = {",,", ",,", ".,,", "/,,", ";l=,,", "?l=,,", "&l=,,"};
        String[] last = {",x", ",x", ".,x", "/,x", ";l=,x", "?l=,x", "&l=,x"};
        for (int i = 0; i < OPERATORS.length; i++) {
            String expression = "{" + OPERATORS[i] + "l}";
            due(expression + " of none", listed(expression), "");
            due(expression + " of one", listed(expression, "x"), one[i]);
            due(expression + " of three", listed(expression, "x", ",", "z"), three[i]);
            due(expression + " of three empty ones", listed(expression, "", "", ""), empty[i]);
            due(expression + " of an empty one and another", listed(expression, "", "x"), last[i]);
        }
    }

    private static void oneItemThatGivesNothing() {
        sentence("when it has one item and that gives nothing, its letter with = behind it for ? and &,"
            + " its letter alone for ;");
        String[] want = {"", "", ".", "/", ";l", "?l=", "&l="};
        String[] two = {",", ",", ".,", "/,", ";l=,", "?l=,", "&l=,"};
        for (int i = 0; i < OPERATORS.length; i++) {
            due("not spread, " + OPERATORS[i], listed("{" + OPERATORS[i] + "l}", ""), want[i]);
            due("spread, " + OPERATORS[i], listed("{" + OPERATORS[i] + "l*}", ""), want[i]);
            due("cut, " + OPERATORS[i], expanded("/{" + OPERATORS[i] + "a:1}", ""), "/" + want[i].replace('l', 'a'));
            due("two items, " + OPERATORS[i], listed("{" + OPERATORS[i] + "l}", "", ""), two[i]);
        }
    }

    private static void spread() {
        sentence("When it is spread: its items with the operator's break between two,"
            + " each item as a variable with this one item would be given.");
        String[] three = {"x,y,z", "x,y,z", ".x.y.z", "/x/y/z", ";l=x;l=y;l=z", "?l=x&l=y&l=z", "&l=x&l=y&l=z"};
        String[] empty = {",,", ",,", "...", "///", ";l;l;l", "?l=&l=&l=", "&l=&l=&l="};
        String[] mixed = {",y,", ",y,", "..y.", "//y/", ";l;l=y;l", "?l=&l=y&l=", "&l=&l=y&l="};
        for (int i = 0; i < OPERATORS.length; i++) {
            String expression = "{" + OPERATORS[i] + "l*}";
            due(expression + " of none", listed(expression), "");
            due(expression + " of three", listed(expression, "x", "y", "z"), three[i]);
            due(expression + " of three empty ones", listed(expression, "", "", ""), empty[i]);
            due(expression + " of one between empty ones", listed(expression, "", "y", ""), mixed[i]);
            due("{" + OPERATORS[i] + "a*} of a TEXT", expanded("/{" + OPERATORS[i] + "a*}", "x"),
                "/" + three[i].substring(0, three[i].indexOf('x') + 1).replace('l', 'a'));
        }
    }

    // The request.

    private static void verbNames() {
        sentence("the verb's name, a space, the TARGET, a space, HTTP/1.1 and a line end; host: h and a line end");
        String[] names = {"GET", "HEAD", "POST", "PUT", "DELETE"};
        for (int verb = 0; verb <= 4; verb++) {
            TemplateCaller x = Calls.declared(verb, "/");
            x.send();
            due("verb " + verb, Calls.sentText(x).startsWith(names[verb] + " / HTTP/1.1\r\nhost: h\r\n"), true);
        }
    }

    private static void headersWithoutItems() {
        sentence("for each HEADER parameter with items, in order: x- and its letter, a colon and a space,"
            + " its items with a comma and a space between two, a line end");
        TemplateCaller x = Calls.declared(Calls.GET, "/");
        x.parameter(Calls.HEADER, 'z');
        x.parameter(Calls.HEADER, 'a');
        due("none with items", headersOf(x), "");
        x.item(1);
        due("one, empty", headersOf(x), "x-a: \r\n");
        x.item(1);
        x.item(1);
        due("three, empty", headersOf(x), "x-a: , , \r\n");
        Calls.addItem(x, 0, "! ~");
        due("in order", headersOf(x), "x-z: ! ~\r\nx-a: , , \r\n");
        x.empty(1);
        due("emptied", headersOf(x), "x-z: ! ~\r\n");
    }

    private static String headersOf(TemplateCaller x) {
        x.send();
        String request = Calls.sentText(x);
        return request.substring(request.indexOf("host: h\r\n") + 9, request.indexOf("\r\n\r\n") + 2);
    }

    private static void contentLength() {
        sentence("for POST and PUT: content-length: and a space, the number of bytes of the content in decimal, a line end");
        for (int verb = 0; verb <= 4; verb++) {
            TemplateCaller x = Calls.declared(verb, "/");
            boolean has = verb == Calls.POST || verb == Calls.PUT;
            x.send();
            due("no parameters, verb " + verb, Calls.sentText(x).split("host: h\r\n")[1],
                has ? "content-length: 0\r\n\r\n" : "\r\n");
            x.parameter(Calls.QUERY, 'q');
            x.parameter(Calls.HEADER, 'h');
            x.send();
            due("parameters without items, verb " + verb, Calls.sentText(x).split("host: h\r\n")[1],
                has ? "content-length: 0\r\n\r\n" : "\r\n");
            if (has) {
                x.parameter(Calls.BODY, 'b');
                due("a BODY without an item", contentOf(x), "0 ");
                x.item(2);
                due("a BODY with an empty one", contentOf(x), "0 ");
                x.write(2, '\u20ac');
                due("a BODY of three bytes", contentOf(x), "3 \u00e2\u0082\u00ac");
            }
        }
    }

    private static void contentLengthDigits() {
        sentence("the number of bytes of the content in decimal");
        due("9", bodyOf("1\ud800\udc00\ud800\udc00"), "9 1\u00f0\u0090\u0080\u0080\u00f0\u0090\u0080\u0080");
        due("10", bodyOf("12\ud800\udc00\ud800\udc00"), "10 12\u00f0\u0090\u0080\u0080\u00f0\u0090\u0080\u0080");
        due("0", bodyOf(""), "0 ");
        due("1", bodyOf("x"), "1 x");
        TemplateCaller x = Calls.declared(Calls.PUT, "/");
        Calls.add(x, Calls.FIELD, 'f', EUROS, "&&&&1234");
        Calls.add(x, Calls.FIELD, 'g', "123");
        due("99", contentOf(x).split(" ")[0], "99");
        x.write(1, '4');
        due("100", contentOf(x).split(" ")[0], "100");
    }

    private static void queryMark() {
        sentence("QUERY parameter in order and each of its items: ? if there is no ? in the target so far, else &,"
            + " the letter, =, the item encoded.");
        due("no ?", queried("/", "1"), "/?q=1");
        due("no ?, three items", queried("/", "1", "", "3"), "/?q=1&q=&q=3");
        due("a & alone", queried("/&", "1"), "/&?q=1");
        due("a ? last", queried("/?", "1"), "/?&q=1");
        due("a ? first of the rest", queried("/?a", "1"), "/?a&q=1");
        due("a ? that is encoded", queried("/", "?", "?"), "/?q=%3F&q=%3F");
        for (String operator : OPERATORS) {
            TemplateCaller x = Calls.declared(Calls.GET, "/{" + operator + "a}");
            x.parameter(Calls.TEXT, 'a');
            Calls.add(x, Calls.QUERY, 'q', "1");
            due("an expression with " + operator + ", undefined", Calls.target(x), "/?q=1");
            x.item(0);
            boolean marks = operator.equals("?");
            due("an expression with " + operator + ", empty", Calls.target(x).endsWith(marks ? "&q=1" : "?q=1"), true);
            x.write(0, '?');
            marks = marks || operator.equals("+");
            due("an expression with " + operator + " and a ?", Calls.target(x).endsWith(marks ? "&q=1" : "?q=1"), true);
        }
        due("a ? at the end of the longest template", queried("/" + "a".repeat(38) + "?", "1"),
            "/" + "a".repeat(38) + "?&q=1");
    }

    private static void queryWithoutItems() {
        sentence("QUERY parameter in order and each of its items: ? if there is no ? in the target so far, else &");
        TemplateCaller x = Calls.declared(Calls.GET, "/");
        for (char letter = 'f'; letter >= 'a'; letter--) {
            x.parameter(Calls.QUERY, letter);
        }
        due("none has items", Calls.target(x), "/");
        x.item(5);
        due("the last one has", Calls.target(x), "/?a=");
        x.item(2);
        x.item(2);
        due("in order", Calls.target(x), "/?d=&d=&a=");
        x.empty(2);
        due("emptied", Calls.target(x), "/?a=");
    }

    private static void noContent() {
        sentence("The CONTENT is nothing for GET, HEAD and DELETE");
        for (int verb : new int[] {Calls.GET, Calls.HEAD, Calls.DELETE}) {
            TemplateCaller x = Calls.declared(verb, "/");
            Calls.add(x, Calls.QUERY, 'q', "1");
            Calls.add(x, Calls.HEADER, 'h', "2");
            x.send();
            due("verb " + verb, Calls.sentText(x).endsWith("host: h\r\nx-h: 2\r\n\r\n"), true);
        }
    }

    private static void body() {
        sentence("else the UTF-8 of the BODY's item (nothing, if it has none)");
        TemplateCaller x = Calls.declared(Calls.POST, "/");
        x.parameter(Calls.BODY, 'b');
        due("no item", contentOf(x), "0 ");
        x.item(0);
        due("an empty item", contentOf(x), "0 ");
        for (char c : "\0\r\n %+&\u00ff".toCharArray()) {
            x.write(0, c);
        }
        due("nothing is encoded", contentOf(x), "9 \0\r\n %+&\u00c3\u00bf");
        x.empty(0);
        due("no item again", contentOf(x), "0 ");
    }

    private static void fields() {
        sentence("for each of them in order and each of its items the letter, =, and the item encoded as a form,"
            + " with & between two; else nothing");
        due("no items", fieldOf(), "0 ");
        due("an empty item", fieldOf(""), "2 f=");
        due("three empty items", fieldOf("", "", ""), "8 f=&f=&f=");
        for (int with = 0; with < 8; with++) {
            TemplateCaller x = Calls.declared(Calls.PUT, "/");
            StringBuilder want = new StringBuilder();
            for (int k = 0; k < 3; k++) {
                x.parameter(Calls.FIELD, (char) ('c' - k));
                if ((with >> k & 1) == 1) {
                    Calls.addItem(x, k, "1");
                    want.append(want.length() == 0 ? "" : "&").append((char) ('c' - k)).append("=1");
                }
            }
            due("items of some, " + with, contentOf(x), want.length() + " " + want);
        }
    }

    // Promise 9.

    private static void lone() {
        sentence("Some item of some parameter has a lone char.");
        for (int kind = 0; kind <= 5; kind++) {
            for (int place = 0; place < (kind % 5 == 0 ? 1 : 3); place++) {
                TemplateCaller x = Calls.declared(Calls.PUT, kind <= 1 ? "/{a}" : "/");
                x.parameter(kind, 'a');
                for (int n = 0; n <= place; n++) {
                    Calls.addItem(x, 0, n == place ? "1234567\udc00" : "");
                }
                due("item " + place + " of kind " + kind, x.send(), TemplateCaller.LONE);
                x.empty(0);
                due("without it, kind " + kind, x.send() > 0, true);
            }
        }
        due("behind what is cut off", expanded("/{a:1}", "12345\ud800"), "-8");
        TemplateCaller x = Calls.declared(Calls.GET, "/");
        for (int k = 0; k < 6; k++) {
            Calls.add(x, Calls.QUERY, 'q', k == 5 ? "\udbff" : "");
        }
        due("the sixth parameter", x.send(), TemplateCaller.LONE);
    }

    private static void unfit() {
        sentence("Some item of a HEADER parameter has a char that is not 32 .. 126, or a space as its first or its last one.");
        for (int c = 0; c <= 65535; c++) {
            String text = String.valueOf((char) c);
            boolean alone = c >= 55296 && c <= 57343;
            int between = alone ? TemplateCaller.LONE : c >= 32 && c <= 126 ? 0 : TemplateCaller.UNFIT;
            int atEnd = c == 32 ? TemplateCaller.UNFIT : between;
            due("char " + c + " between", sentHeader("a" + text + "b"), between);
            due("char " + c + " alone", sentHeader(text), atEnd);
            due("char " + c + " first", sentHeader(text + "a"), atEnd);
            due("char " + c + " last", sentHeader("a" + text), atEnd);
        }
        due("an empty item", sentHeader(""), 0);
        due("a space as the eighth", sentHeader("1234567 "), TemplateCaller.UNFIT);
        due("a space as the seventh", sentHeader("123456 8"), 0);
        due("two spaces", sentHeader("  "), TemplateCaller.UNFIT);
        due("in the third item", sentHeader("", "a b", "\u007f"), TemplateCaller.UNFIT);
        due("a pair", sentHeader("\ud800\udc00"), TemplateCaller.UNFIT);
        due("not a HEADER's", sentQuery(" ", "\u007f", "\ud800\udc00"), 0);
        TemplateCaller x = Calls.declared(Calls.GET, "/");
        Calls.add(x, Calls.HEADER, 'h', " ");
        due("a space", x.send(), TemplateCaller.UNFIT);
        x.empty(0);
        x.item(0);
        due("an empty item where a space was", x.send(), 34);
    }

    private static int sentHeader(String... items) {
        TemplateCaller x = Calls.declared(Calls.GET, "/");
        Calls.add(x, Calls.HEADER, 'h', items);
        return Math.min(0, x.send());
    }

    /** A declaration whose request has the faults that are asked for; the others do not depend on them. */
    private static TemplateCaller faulty(boolean declared, boolean alone, boolean unfit, boolean tooLong) {
        TemplateCaller x = Calls.declared(Calls.GET, "/{l,l,l,l,l,l,l,l,l,l}");
        Calls.add(x, Calls.HEADER, 'h', unfit ? "\n" : "n");
        Calls.add(x, Calls.LIST, 'l', tooLong ? new String[] {EUROS, EUROS} : new String[] {"x"});
        Calls.add(x, Calls.QUERY, 'q', alone ? "\udc00" : "y");
        if (declared) {
            x.parameter(Calls.FIELD, 'f');
        }
        return x;
    }

    private static void orderOfFaults() {
        sentence("When that can't be, the fault of the declaration, else LONE, else UNFIT, else LONG, whichever comes first");
        for (int faults = 0; faults < 16; faults++) {
            boolean declared = (faults & 1) != 0;
            boolean alone = (faults & 2) != 0;
            boolean unfit = (faults & 4) != 0;
            boolean tooLong = (faults & 8) != 0;
            int want = declared ? TemplateCaller.NOBODY : alone ? TemplateCaller.LONE : unfit ? TemplateCaller.UNFIT
                : tooLong ? TemplateCaller.LONG : 0;
            TemplateCaller x = faulty(declared, alone, unfit, tooLong);
            due("send() with the faults " + faults, Math.min(0, x.send()), want);
            due("a request", x.sent(0), faults == 0 ? (int) 'G' : -1);
            due("check() knows the declaration alone", x.check(), declared ? TemplateCaller.NOBODY : 0);
        }
        TemplateCaller x = Calls.declared(Calls.GET, "/");
        Calls.add(x, Calls.HEADER, 'h', "\n");
        Calls.add(x, Calls.HEADER, 'h', "\ud800");
        due("LONE in a later parameter than UNFIT", x.send(), TemplateCaller.LONE);
        due("LONE in a HEADER's item that is unfit too", sentHeader("\n\ud800"), TemplateCaller.LONE);
    }

    /** A POST of 983 bytes and as many more as the template has behind its /. */
    private static TemplateCaller longPost(int more, String lastHeader) {
        TemplateCaller x = Calls.declared(Calls.POST, "/" + "p".repeat(more));
        for (int n = 0; n < 4; n++) {
            Calls.add(x, Calls.FIELD, 'f', EUROS, EUROS, EUROS);
        }
        Calls.add(x, Calls.HEADER, 'h', "12345678", "12345678", lastHeader);
        return x;
    }

    private static void thousandBytes() {
        sentence("The request would have more than 1000 bytes.");
        for (int more = 15; more <= 20; more++) {
            int length = 983 + more;
            TemplateCaller x = longPost(more, "12345678");
            due("a request of " + length, x.send(), length <= 1000 ? length : TemplateCaller.LONG);
            due("its last byte", x.sent(length - 1), length <= 1000 ? (int) 'C' : -1);
            due("none behind it", x.sent(length), -1);
        }
        TemplateCaller x = longPost(18, "1234567");
        due("1000 bytes, a header shorter", x.send(), 1000);
        x.write(4, '8');
        due("1001 bytes by a header", x.send(), TemplateCaller.LONG);
        x = longPost(14, "12345678");
        x.parameter(Calls.QUERY, 'q');
        x.item(5);
        due("1000 bytes with a query", x.send(), 1000);
        x.write(5, 'x');
        due("1001 bytes by a query", x.send(), TemplateCaller.LONG);
        x = longPost(14, "12345678");
        x.parameter(Calls.FIELD, 'g');
        x.item(5);
        due("1000 bytes with a field", x.send(), 1000);
        x.write(5, 'x');
        due("1001 bytes by the content", x.send(), TemplateCaller.LONG);
        x.empty(5);
        due("short enough again", x.send(), 997);
    }

    private static void requestStays() {
        sentence("the request made before stays then");
        int[] faults = {TemplateCaller.LONG, TemplateCaller.UNFIT, TemplateCaller.LONE, TemplateCaller.UNUSED};
        for (int fault : faults) {
            TemplateCaller x = Calls.declared(Calls.GET, "/{l,l,l,l,l,l,l,l,l,l}");
            Calls.add(x, Calls.LIST, 'l', "1");
            Calls.add(x, Calls.HEADER, 'h', "2");
            int length = x.send();
            String made = Calls.sentText(x);
            spoil(x, fault);
            due("the fault", x.send(), fault);
            due("the request behind " + fault, Calls.sentText(x), made);
            due("the fault again", x.send(), fault);
            due("the request behind " + fault + " again", Calls.sentText(x), made);
            due("no byte behind it", x.sent(length), -1);
        }
        TemplateCaller x = longPost(17, "12345678");
        due("1000 bytes", x.send(), 1000);
        x.declare(Calls.DELETE);
        due("TEMPLATE", x.send(), TemplateCaller.TEMPLATE);
        due("the last of 1000 bytes stays", x.sent(999), (int) 'C');
        x.template('/');
        due("a new one", x.send(), 30);
        due("the old one is gone", x.sent(30), -1);
        sentence("(It goes nowhere: the reader knows nothing of it.)");
        due("the reader", x.state() + x.status() + x.fields() + x.length(), 0);
    }

    private static void spoil(TemplateCaller x, int fault) {
        switch (fault) {
            case TemplateCaller.LONG -> {
                Calls.addItem(x, 0, EUROS);
                Calls.addItem(x, 0, EUROS);
            }
            case TemplateCaller.UNFIT -> x.write(1, ' ');
            case TemplateCaller.LONE -> x.write(0, '\udbff');
            default -> x.parameter(Calls.TEXT, 'u');
        }
    }

    // Promise 10.

    private static void sentRange() {
        sentence("Byte i (0 the first) of the request made last; -1 when there is none.");
        int[] outside = {-1, -2, 27, 28, 999, 1000, 1001, 65536, Integer.MIN_VALUE, Integer.MIN_VALUE + 1,
            Integer.MAX_VALUE, Integer.MAX_VALUE - 1};
        TemplateCaller x = Calls.declared(Calls.GET, "/");
        due("sent(0) before send", x.sent(0), -1);
        for (int i : outside) {
            due("sent(" + i + ") before send", x.sent(i), -1);
        }
        due("the length", x.send(), 27);
        due("the first byte", x.sent(0), (int) 'G');
        due("the last byte but one", x.sent(25), 13);
        due("the last byte", x.sent(26), 10);
        for (int i : outside) {
            due("sent(" + i + ")", x.sent(i), -1);
        }
        x = Calls.declared(Calls.PUT, "/");
        Calls.add(x, Calls.BODY, 'b', "\0\u007f\udbff\udfff\uffff");
        int length = x.send();
        due("a byte 0", x.sent(length - 9), 0);
        due("a byte 127", x.sent(length - 8), 127);
        due("a byte 244", x.sent(length - 7), 244);
        due("a byte 239", x.sent(length - 3), 239);
        due("the last byte, 191", x.sent(length - 1), 191);
    }

    private static void sentOfAShorterOne() {
        sentence("Byte i (0 the first) of the request made last; -1 when there is none.");
        TemplateCaller x = Calls.declared(Calls.GET, "/abc");
        due("a longer one", x.send(), 30);
        due("its last byte", x.sent(29), 10);
        x.declare(Calls.GET);
        x.template('/');
        due("a shorter one", x.send(), 27);
        due("its last byte", x.sent(26), 10);
        for (int i = 27; i <= 30; i++) {
            due("sent(" + i + ")", x.sent(i), -1);
        }
        due("again the shorter one", x.send(), 27);
        due("none behind it", x.sent(27), -1);
    }
}
