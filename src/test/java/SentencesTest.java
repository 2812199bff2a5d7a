import java.nio.charset.StandardCharsets;
import java.util.List;
import java.util.function.Consumer;

/**
 * The document once more from its first line: the sentences that the other tests do not quote. Most
 * are asked of a new object and of objects that other calls came before.
 */
public final class SentencesTest {
    private static final Answers ANSWERS = new Answers("SentencesTest");
    private static final String OK = "HTTP/1.1 200 ok\r\n";
    private static final String CHUNKED = OK + "transfer-encoding: chunked\r\n\r\n";
    private static final String EUROS = "\u20ac".repeat(8);
    private static final String[] OPERATORS = {"", "+", ".", "/", ";", "?", "&"};
    // What may have come before; each past has far fewer than 512 calls.
    private static final List<Consumer<TemplateCaller>> PASTS = List.of(SentencesTest::fullOfItems,
        SentencesTest::fullOfFaults, SentencesTest::tooLong, SentencesTest::inTheLinesBehindChunks);

    public static void main(String[] args) {
        whateverTheArguments();
        whateverTheBytes();
        behindEachPast(SentencesTest::verbs);
        behindEachPast(SentencesTest::kinds);
        behindEachPast(SentencesTest::itemsAtFirst);
        behindEachPast(SentencesTest::rowOfLiteralsAndExpressions);
        behindEachPast(SentencesTest::faults);
        utf8OfChars();
        utf8OfPairs();
        unreserved();
        literals();
        behindEachPast(SentencesTest::startAndBreak);
        looselyWithPlusAlone();
        behindEachPast(SentencesTest::named);
        behindEachPast(SentencesTest::wholeRequest);
        behindEachPast(SentencesTest::contentOfFields);
        behindEachPast(SentencesTest::badAndFull);
        behindEachPast(SentencesTest::addsACharacter);
        behindEachPast(SentencesTest::addsAnItem);
        behindEachPast(SentencesTest::addsAChar);
        behindEachPast(SentencesTest::lengthOfTheRequest);
        behindEachPast(SentencesTest::states);
        behindEachPast(SentencesTest::statesOfEachByte);
        whenTheLineIsComplete();
        whichContent();
        anyBytesInAChunk();
        behindEachPast(SentencesTest::noMoreBytes);
        behindEachPast(SentencesTest::statusOfTheHead);
        ANSWERS.finish();
    }

    private static void sentence(String words) {
        ANSWERS.sentence(words);
    }

    private static void due(String what, Object got, Object want) {
        ANSWERS.due(what, got, want);
    }

    /** Asks a new object, and one behind each past that has a new declaration and a reader at its beginning. */
    private static void behindEachPast(Consumer<TemplateCaller> question) {
        question.accept(new TemplateCaller());
        for (Consumer<TemplateCaller> past : PASTS) {
            TemplateCaller x = new TemplateCaller();
            past.accept(x);
            x.declare(Calls.GET);
            x.reset();
            question.accept(x);
        }
    }

    private static void fullOfItems(TemplateCaller x) {
        x.declare(Calls.PUT);
        Calls.addTemplate(x, "/{t}{l*}");
        Calls.add(x, Calls.TEXT, 't', "12345678");
        Calls.add(x, Calls.LIST, 'l', "a", "\ud800\udc00", "c");
        Calls.add(x, Calls.QUERY, 'q', "d", "e", "f");
        Calls.add(x, Calls.HEADER, 'h', "g", "h", "i");
        Calls.add(x, Calls.FIELD, 'f', "j", "k", "l");
        Calls.add(x, Calls.FIELD, 'f', "m");
        x.send();
        Calls.fed(x, OK + "content-length: 3\r\n\r\nabc");
    }

    private static void fullOfFaults(TemplateCaller x) {
        x.declare(Calls.DELETE);
        Calls.addTemplate(x, "{".repeat(41));
        for (int n = 0; n < 7; n++) {
            Calls.add(x, n < 2 ? Calls.LIST : Calls.BODY, 'z', "\udc00");
        }
        x.send();
        x.feed(10);
        x.close();
    }

    private static void tooLong(TemplateCaller x) {
        x.template('/');
        x.send();
        x.declare(Calls.POST);
        x.template('/');
        for (int n = 0; n < 5; n++) {
            Calls.add(x, Calls.FIELD, 'f', EUROS, EUROS, EUROS);
        }
        x.send();
        Calls.fed(x, OK + "content-length: 121\r\n\r\n");
    }

    private static void inTheLinesBehindChunks(TemplateCaller x) {
        x.declare(Calls.POST);
        Calls.fed(x, "HTTP/1.1 100 \r\na:\r\n\r\n" + CHUNKED + "2\r\nab\r\n0\r\nc:\r\nd:\r");
        x.declare(Calls.HEAD);
    }

    // What it is.

    private static void whateverTheArguments() {
        sentence("Calls that are declared once, by a template of a path and by parameters, become requests as bytes"
            + " whatever the arguments are, or are refused");
        String[] arguments = {"", " ", "\r\n", "\r\nx-x: y", "a b", "/../", "?#&=", "%", "%0d%0a", "\0", "\u00e9", "\u20ac",
            "\ud83d\ude00", "\ud83d", "\ude00", "\uffff", "HTTP/1.1", ": h\r\n\r\n", "{a}", "\u010d\u010a", "12345678"};
        for (String argument : arguments) {
            for (String operator : OPERATORS) {
                dueAsRequestOrRefused(withArgument(operator, argument), argument);
                TemplateCaller x = withArgument(operator, argument);
                Calls.add(x, Calls.HEADER, 'h', argument);
                dueAsRequestOrRefused(x, argument);
            }
        }
    }

    private static TemplateCaller withArgument(String operator, String argument) {
        TemplateCaller x = Calls.declared(Calls.POST, "/{" + operator + "t,l*}{t:1}");
        Calls.add(x, Calls.TEXT, 't', argument);
        Calls.add(x, Calls.LIST, 'l', argument, argument);
        Calls.add(x, Calls.QUERY, 'q', argument);
        Calls.add(x, Calls.FIELD, 'f', argument);
        return x;
    }

    private static void dueAsRequestOrRefused(TemplateCaller x, String argument) {
        int answer = x.send();
        boolean alone = !StandardCharsets.UTF_8.newEncoder().canEncode(argument);
        if (answer < 0) {
            due("a refusal with " + argument, answer, alone ? TemplateCaller.LONE : TemplateCaller.UNFIT);
            due("no request with " + argument, x.sent(0), -1);
            return;
        }
        String target = "/([a-zA-Z0-9._~:/?@!$&'()*+,;=-]|%[0-9a-fA-F]{2})*";
        String form = "f=([a-zA-Z0-9._~+-]|%[0-9A-F]{2})*";
        due("a request with " + argument, Calls.sentText(x).matches("POST " + target + " HTTP/1\\.1\r\nhost: h\r\n"
            + "(x-h: [ -~]*\r\n)?content-length: [0-9]+\r\n\r\n" + form), true);
    }

    private static void whateverTheBytes() {
        sentence("and bytes that come back are read as a response, strictly.");
        String answer = OK + "transfer-encoding: chunked\r\n\r\n1\r\na\r\n0\r\n\r\n";
        due("a right response", Calls.states(new TemplateCaller(), answer), "012");
        for (int i = 0; i < answer.length(); i++) {
            TemplateCaller x = new TemplateCaller();
            due("without byte " + i, Calls.fed(x, answer.substring(0, i) + answer.substring(i + 1)) == 2, mayBeLeftOut(i));
            due("a byte 0 for byte " + i, Calls.fed(new TemplateCaller(), answer.substring(0, i) + "\0"
                + answer.substring(i + 1)) == 2, answer.charAt(i) == 'a' && answer.charAt(i - 1) == '\n');
        }
    }

    /** The word behind the status, and the blank before a value, may be shorter. */
    private static boolean mayBeLeftOut(int i) {
        return i == OK.length() - 4 || i == OK.length() - 3 || i == OK.length() + "transfer-encoding:".length();
    }

    // Terms: the declaration.

    private static void verbs(TemplateCaller x) {
        sentence("A DECLARATION has a VERB (0 GET, 1 HEAD, 2 POST, 3 PUT, 4 DELETE), a TEMPLATE of at most 40 characters, and");
        String[] names = {"GET ", "HEAD ", "POST ", "PUT ", "DELETE "};
        for (int verb = 0; verb <= 4; verb++) {
            x.declare(verb);
            x.template('/');
            x.send();
            for (int i = 0; i < names[verb].length(); i++) {
                due("byte " + i + " with verb " + verb, x.sent(i), (int) names[verb].charAt(i));
            }
        }
        x.declare(Calls.GET);
        for (int n = 1; n <= 40; n++) {
            due("character " + n, x.template('/'), true);
        }
        due("character 41", x.template('/'), false);
        due("a target of 40", x.send(), 66);
    }

    private static void kinds(TemplateCaller x) {
        sentence("A parameter has a KIND (0 TEXT, 1 LIST, 2 QUERY, 3 HEADER, 4 FIELD, 5 BODY), a LETTER a .. z, and");
        x.declare(Calls.POST);
        Calls.addTemplate(x, "/{a}{/z*}");
        String[] places = {"/1/2/3?m=4 ", "x-y: 5\r\n", "\r\nb=6"};
        Calls.add(x, 0, 'a', "1");
        Calls.add(x, 1, 'z', "2", "3");
        Calls.add(x, 2, 'm', "4");
        Calls.add(x, 3, 'y', "5");
        Calls.add(x, 4, 'b', "6");
        x.send();
        String request = Calls.sentText(x);
        for (String place : places) {
            due(place + " in the request", request.contains(place), true);
        }
        x.declare(Calls.PUT);
        x.template('/');
        Calls.add(x, 5, 'c', "7&8");
        x.send();
        due("the BODY's item alone is the content", Calls.sentText(x).endsWith("\r\n\r\n7&8"), true);
    }

    private static void itemsAtFirst(TemplateCaller x) {
        sentence("and as its argument a list of ITEMS, at first none:");
        for (int kind = 0; kind <= 5; kind++) {
            due("parameter " + kind, x.parameter(kind, (char) ('u' + kind)), kind);
            due("no item of kind " + kind, x.write(kind, 'a'), false);
        }
        x.declare(Calls.PUT);
        Calls.addTemplate(x, "/{t}{?l}");
        for (int kind = 0; kind <= 4; kind++) {
            x.parameter(kind, "tlqhf".charAt(kind));
        }
        x.send();
        due("a request without items", Calls.sentText(x), "PUT / HTTP/1.1\r\nhost: h\r\ncontent-length: 0\r\n\r\n");
    }

    private static int checked(TemplateCaller x, String template) {
        x.declare(Calls.GET);
        Calls.addTemplate(x, template);
        x.parameter(Calls.TEXT, 'a');
        return x.check();
    }

    private static void rowOfLiteralsAndExpressions(TemplateCaller x) {
        sentence("and it is a row of literals and expressions.");
        for (String template : new String[] {"/{a}", "/a{a}a", "/{a}{+a}", "/?a={a}&b={a:1}", "/{/a,a*}"}) {
            due("check() of " + template, checked(x, template), 0);
        }
        sentence("TEMPLATE: the template is not well formed.");
        for (String template : new String[] {"", "a{a}", "/{a}}", "/{a}{", "/{a}+b", "/{a}%20"}) {
            due("check() of " + template, checked(x, template), TemplateCaller.TEMPLATE);
            due("send() of " + template, x.send(), TemplateCaller.TEMPLATE);
        }
    }

    private static void faults(TemplateCaller x) {
        sentence("The fault of the declaration; 0 when there is none.");
        x.declare(Calls.GET);
        due("an empty template", x.check(), TemplateCaller.TEMPLATE);
        Calls.addTemplate(x, "/{a:1}");
        due("no parameter", x.check(), TemplateCaller.UNKNOWN);
        x.parameter(Calls.LIST, 'a');
        due("a LIST", x.check(), TemplateCaller.CUTLIST);
        x.parameter(Calls.TEXT, 'b');
        due("a TEXT more", x.check(), TemplateCaller.UNUSED);
        Calls.addTemplate(x, "{b}");
        due("a variable more", x.check(), TemplateCaller.CUTLIST);
        x.parameter(Calls.TEXT, 'b');
        due("the letter again", x.check(), TemplateCaller.TWICE);
        due("it is asked again", x.check(), TemplateCaller.TWICE);
        x.declare(Calls.GET);
        x.template('/');
        due("no fault", x.check(), 0);
        x.parameter(Calls.FIELD, 'f');
        due("a FIELD", x.check(), TemplateCaller.NOBODY);
        x.parameter(Calls.BODY, 'g');
        due("a BODY more", x.check(), TemplateCaller.MIXED);
    }

    // Terms: bytes.

    /** The content of a request whose BODY is the item, a byte a char. */
    private static String bodyOf(String item) {
        TemplateCaller x = Calls.declared(Calls.PUT, "/");
        Calls.add(x, Calls.BODY, 'b', item);
        int length = x.send();
        StringBuilder content = new StringBuilder();
        for (int i = length - 1; i >= 0 && !(x.sent(i) == 10 && x.sent(i - 2) == 10); i--) {
            content.append((char) x.sent(i));
        }
        return content.reverse().toString();
    }

    private static void dueAsUtf8(String item) {
        byte[] bytes = item.getBytes(StandardCharsets.UTF_8);
        due("the UTF-8 from char " + (int) item.charAt(0), bodyOf(item), new String(bytes, StandardCharsets.ISO_8859_1));
    }

    private static void utf8OfChars() {
        sentence("UTF-8: a character becomes 1 to 4 bytes:");
        for (int first = 16; first <= 65535; first += 8) {
            if (first < 55296 || first > 57343) {
                StringBuilder item = new StringBuilder();
                for (int c = first; c < first + 8; c++) {
                    item.append((char) c);
                }
                dueAsUtf8(item.toString());
            }
        }
    }

    private static void utf8OfPairs() {
        sentence(": 240 + the bits of v from the 19th on, and three times 128 + six bits, the lowest last.");
        for (int v = 65536; v <= 1114111; v += 61) {
            dueAsUtf8(new String(Character.toChars(v)));
        }
        dueAsUtf8(new String(Character.toChars(1114111)));
    }

    private static String expanded(String template, String item) {
        TemplateCaller x = Calls.declared(Calls.GET, template);
        Calls.add(x, Calls.TEXT, 'a', item);
        return Calls.target(x);
    }

    private static void unreserved() {
        sentence("UNRESERVED are the letters a .. z and A .. Z, the digits, and - . _ ~. TO ENCODE a row of characters:");
        String unreserved = "abcdefghijklmnopqrstuvwxyzABCDEFGHIJKLMNOPQRSTUVWXYZ0123456789-._~";
        for (char c = 0; c <= 255; c++) {
            String item = String.valueOf(c);
            boolean kept = unreserved.indexOf(c) >= 0;
            due("char " + (int) c, expanded("/{a}", item + item).equals("/" + item + item), kept);
        }
        sentence("%XX, with its two hexadecimal digits 0 .. 9, A .. F.");
        StringBuilder digits = new StringBuilder();
        for (char c = 0; c <= 15; c++) {
            digits.append(expanded("/{a}", String.valueOf(c)).substring(3));
        }
        due("the second digits", digits.toString(), "0123456789ABCDEF");
        due("the first digits", expanded("/{a}", "\0\u001f +@[`{"), "/%00%1F%20%2B%40%5B%60%7B");
        due("the first digits of bytes from 128 on", expanded("/{a}", "\u0080\u00c0\u0400\u0800\ud800\udc00"),
            "/%C2%80%C3%80%D0%80%E0%A0%80%F0%90%80%80");
    }

    // Terms: to expand.

    private static void literals() {
        sentence("TO EXPAND a template: literals stand for themselves.");
        String[] templates = {"/abcdefghijklmnopqrstuvwxyz", "/ABCDEFGHIJKLMNOPQRSTUVWXYZ", "/0123456789-._~/?=&",
            "/????&&&&====////"};
        for (String template : templates) {
            due(template, Calls.target(Calls.declared(Calls.GET, template)), template);
            due(template + " with an expression", expanded(template + "{a}", "x"), template + "x");
        }
    }

    private static void startAndBreak(TemplateCaller x) {
        sentence("Start and break are: no operator and +: nothing and a comma; the other operators: the operator itself, both;"
            + " but for ? the break is &.");
        String[] starts = {"", "", ".", "/", ";", "?", "&"};
        String[] breaks = {",", ",", ".", "/", ";", "&", "&"};
        for (int i = 0; i < OPERATORS.length; i++) {
            String name = i >= 4 ? "a=" : "";
            x.declare(Calls.GET);
            Calls.addTemplate(x, "/{" + OPERATORS[i] + "a,a}");
            Calls.add(x, Calls.TEXT, 'a', "1");
            int length = x.send();
            String want = "GET /" + starts[i] + name + "1" + breaks[i] + name + "1 ";
            due("{" + OPERATORS[i] + "a,a}", length, want.length() + 21);
            for (int n = 5; n < want.length(); n++) {
                due("byte " + n + " of " + want, x.sent(n), (int) want.charAt(n));
            }
        }
    }

    private static void looselyWithPlusAlone() {
        sentence("Named are ; ? &. With + items are encoded loosely, else encoded.");
        String marks = ":/?@!$&'";
        String encoded = "%3A%2F%3F%40%21%24%26%27";
        String[] before = {"", "", ".", "/", ";a=", "?a=", "&a="};
        for (int i = 0; i < OPERATORS.length; i++) {
            String want = "/" + before[i] + (OPERATORS[i].equals("+") ? marks : encoded);
            due("{" + OPERATORS[i] + "a}", expanded("/{" + OPERATORS[i] + "a}", marks), want);
            due("{" + OPERATORS[i] + "a*}", expanded("/{" + OPERATORS[i] + "a*}", marks), want);
            due("{" + OPERATORS[i] + "a:8}", expanded("/{" + OPERATORS[i] + "a:8}", marks), want);
        }
    }

    private static void named(TemplateCaller x) {
        sentence("; for a named operator, its letter before that, and = between them, but");
        for (String operator : new String[] {";", "?", "&"}) {
            x.declare(Calls.GET);
            Calls.addTemplate(x, "/{" + operator + "l}");
            Calls.add(x, Calls.LIST, 'l', "1");
            due("one item with " + operator, Calls.target(x), "/" + operator + "l=1");
            Calls.addItem(x, 0, "");
            due("two items with " + operator, Calls.target(x), "/" + operator + "l=1,");
        }
    }

    // Terms: the request.

    private static void wholeRequest(TemplateCaller x) {
        sentence("; a line end; the content. A LINE END is the bytes 13, 10."
            + " The target is the template, expanded, and then for each");
        x.declare(Calls.PUT);
        Calls.addTemplate(x, "/u{/a}{;l*}");
        Calls.add(x, Calls.HEADER, 'h', "v", "w w");
        Calls.add(x, Calls.TEXT, 'a', " ");
        Calls.add(x, Calls.BODY, 'b', "\u00e9\r");
        Calls.add(x, Calls.LIST, 'l', "1", "");
        Calls.add(x, Calls.QUERY, 'q', "2", "&");
        Calls.add(x, Calls.HEADER, 'g', "");
        String want = "PUT /u/%20;l=1;l?q=2&q=%26 HTTP/1.1\r\nhost: h\r\nx-h: v, w w\r\nx-g: \r\ncontent-length: 3\r\n\r\n"
            + "\u00c3\u00a9\r";
        due("send()", x.send(), want.length());
        due("the request", Calls.sentText(x), want);
    }

    private static void contentOfFields(TemplateCaller x) {
        sentence("; or, when there are FIELD parameters,");
        x.declare(Calls.POST);
        x.template('/');
        due("no content without them", x.send(), 47);
        Calls.add(x, Calls.FIELD, 'f');
        due("no content without items", x.send(), 47);
        Calls.add(x, Calls.FIELD, 'e', "1 2");
        due("a content with one", x.send(), 52);
        Calls.addItem(x, 0, "");
        x.send();
        due("the content with both", Calls.sentText(x).endsWith("content-length: 8\r\n\r\nf=&e=1+2"), true);
    }

    // Promises 1 to 10.

    private static void badAndFull(TemplateCaller x) {
        sentence("BAD = -11, FULL = -12: An argument of the call is not as it must be.");
        due("BAD", TemplateCaller.BAD, -11);
        due("FULL", TemplateCaller.FULL, -12);
        due("feed(256)", x.feed(256), -11);
        due("parameter(6, a)", x.parameter(6, 'a'), -11);
        due("parameter(2, A)", x.parameter(2, 'A'), -11);
        for (int k = 0; k < 6; k++) {
            due("parameter " + k, x.parameter(Calls.QUERY, 'q'), k);
        }
        due("a seventh", x.parameter(Calls.QUERY, 'q'), -12);
    }

    private static void addsACharacter(TemplateCaller x) {
        sentence("Adds a character to the template.");
        String template = "/ab/{c}?d";
        x.declare(Calls.GET);
        for (int i = 0; i < template.length(); i++) {
            due("template(" + template.charAt(i) + ")", x.template(template.charAt(i)), true);
        }
        Calls.add(x, Calls.TEXT, 'c', "C");
        due("in their order", Calls.target(x), "/ab/C?d");
        due("one more", x.template('e'), true);
        due("behind the others", Calls.target(x), "/ab/C?de");
    }

    private static void addsAnItem(TemplateCaller x) {
        sentence("Adds an empty item to the argument of parameter k.");
        x.declare(Calls.GET);
        x.template('/');
        x.parameter(Calls.QUERY, 'p');
        x.parameter(Calls.QUERY, 'q');
        due("item(1)", x.item(1), true);
        due("of parameter 1 alone", Calls.target(x), "/?q=");
        due("item(0)", x.item(0), true);
        due("item(1) again", x.item(1), true);
        due("of both", Calls.target(x), "/?p=&q=&q=");
    }

    private static void addsAChar(TemplateCaller x) {
        sentence("Adds a char to the last item of the argument of parameter k.");
        x.declare(Calls.GET);
        x.template('/');
        Calls.add(x, Calls.QUERY, 'p', "a", "b");
        Calls.add(x, Calls.QUERY, 'q', "c");
        due("write(0, d)", x.write(0, 'd'), true);
        due("to the last item", Calls.target(x), "/?p=a&p=bd&q=c");
        x.item(0);
        due("write(0, e)", x.write(0, 'e'), true);
        due("write(1, f)", x.write(1, 'f'), true);
        due("to the last items", Calls.target(x), "/?p=a&p=bd&p=e&q=cf");
    }

    private static void lengthOfTheRequest(TemplateCaller x) {
        sentence("Makes the request: its length in bytes.");
        x.declare(Calls.POST);
        x.template('/');
        Calls.add(x, Calls.BODY, 'b');
        due("no item", x.send(), 47);
        due("it is made again", x.send(), 47);
        x.item(0);
        int length = 47;
        int[] bytes = {1, 2, 3, 3};
        for (int n = 0; n < 4; n++) {
            x.write(0, "a\u00e9\u20ac\uffff".charAt(n));
            length += bytes[n];
            due("char " + n + " more", x.send(), length);
            due("its last byte", x.sent(length - 1) >= 0, true);
            due("no byte behind it", x.sent(length), -1);
        }
        x.write(0, '\ud800');
        x.send();
        x.write(0, '\udc00');
        due("a pair more, and a digit of the content-length", x.send(), length + 5);
    }

    // The reader.

    private static void states(TemplateCaller x) {
        sentence("The state of the reader: 0 HEAD, 1 CONTENT, 2 COMPLETE, 3 BROKEN.");
        due("at its beginning", x.state(), 0);
        Calls.fed(x, OK + "\r");
        due("before the head's end", x.state(), 0);
        x.feed(10);
        due("at the head's end", x.state(), 1);
        x.close();
        due("at the close", x.state(), 2);
        x.reset();
        due("at its beginning again", x.state(), 0);
        x.feed(10);
        due("broken", x.state(), 3);
    }

    private static void statesOfEachByte(TemplateCaller x) {
        sentence("THE READER is in a STATE: HEAD (0, at first), CONTENT (1: from the end of a head that is not forgotten until it"
            + " is COMPLETE or BROKEN, so also in the lines of chunks and the field lines behind the last one), COMPLETE (2),"
            + " BROKEN (3).");
        String head = "HTTP/1.1 100 \r\n\r\nHTTP/1.1 200 \r\ntransfer-encoding:chunked\r\n\r";
        String rest = "\n2;x\r\nab\r\n1\r\n\0\r\n000\r\na:\r\nb: c\r\n\r";
        dueForEachByte(x, head, 0);
        dueForEachByte(x, rest, 1);
        dueForEachByte(x, "\n", 2);
        sentence("The reader gets a byte. Answers its state after that.");
        dueForEachByte(x, "\nH\0", 2);
        x.reset();
        dueForEachByte(x, head, 0);
        dueForEachByte(x, "\n1\r\n", 1);
        dueForEachByte(x, "a", 1);
        due("length()", x.length(), 1);
        dueForEachByte(x, "\nb", 3);
    }

    private static void dueForEachByte(TemplateCaller x, String bytes, int state) {
        for (int i = 0; i < bytes.length(); i++) {
            due("byte " + i + " of " + bytes, x.feed(bytes.charAt(i)), state);
        }
        due("state() behind " + bytes, x.state(), state);
    }

    private static TemplateCaller after(String bytes) {
        TemplateCaller x = new TemplateCaller();
        Calls.fed(x, bytes);
        return x;
    }

    private static void whenTheLineIsComplete() {
        sentence("What is not so breaks the reader, when the line that makes it so is complete.");
        String coding = "transfer-encoding: chunked\r\n";
        String[] lines = {"HTTP/1.1 600 \r\n", "HTTP/1.1 20 ok\r\n", "http/1.1 200 ok\r\n", OK + "a b: c\r\n", OK + ":\r\n",
            OK + "content-length: a\r\n", OK + "content-length: 1\r\ncontent-length: 2\r\n", OK + "transfer-encoding: b\r\n",
            OK + coding + coding, OK + coding + "content-length: 1\r\n", OK + "content-length: 1\r\n" + coding,
            OK + "a:\r\n".repeat(9)};
        for (String line : lines) {
            TemplateCaller x = new TemplateCaller();
            dueForEachByte(x, line.substring(0, line.length() - 1), 0);
            int fields = x.fields();
            dueForEachByte(x, "\n", 3);
            due("fields() behind " + line, x.fields(), fields);
            due("status() behind " + line, x.status(), 0);
        }
    }

    private static void whichContent() {
        sentence("Otherwise, with transfer-encoding: the content comes in CHUNKS; with content-length n:");
        String bytes = "2\r\nab\r\n0\r\n\r\n";
        TemplateCaller x = after(CHUNKED + bytes);
        due("with transfer-encoding", x.state() + Calls.contentText(x), "2ab");
        x = after(OK + "content-length: 4\r\n\r\n" + bytes);
        due("with content-length", x.state() + Calls.contentText(x), "22\r\na");
        x = after(OK + "a: b\r\n\r\n" + bytes);
        due("with neither", x.state() + Calls.contentText(x), "1" + bytes);
        for (String head : new String[] {"HTTP/1.1 204 \r\n", "HTTP/1.1 304 \r\n"}) {
            due("with transfer-encoding and " + head, after(head + CHUNKED.substring(OK.length())).state(), 2);
            due("with content-length and " + head, after(head + "content-length: 4\r\n\r\n").state(), 2);
        }
    }

    private static void anyBytesInAChunk() {
        sentence("; so many bytes, any ones; and 13, 10.");
        for (int first = 0; first <= 255; first += 64) {
            TemplateCaller x = after(CHUNKED + "40\r\n");
            for (int b = first; b < first + 64; b++) {
                due("byte " + b, x.feed(b), 1);
            }
            due("the 13, 10", x.feed(13) + " " + x.feed(10), "1 1");
            due("so many bytes", x.length(), 64);
            for (int i = 0; i < 64; i++) {
                due("content(" + i + ")", x.content(i), first + i);
            }
            due("the end", Calls.fed(x, "0\r\n\r\n"), 2);
        }
    }

    private static void noMoreBytes(TemplateCaller x) {
        sentence("No more bytes come:");
        due("close() at the beginning", x.close(), 3);
        x.reset();
        Calls.fed(x, OK + "\r\nabc");
        due("close() in a content up to it", x.close(), 2);
        due("no more bytes", x.feed('d') + Calls.contentText(x), "2abc");
        x.reset();
        Calls.fed(x, OK + "content-length: 4\r\n\r\nabc");
        due("close() in another content", x.close(), 3);
        due("no more bytes", x.feed('d') + Calls.contentText(x), "3abc");
    }

    private static void statusOfTheHead(TemplateCaller x) {
        sentence("The status of the head that has ended and was not forgotten; 0 when there is none.");
        due("at the beginning", x.status(), 0);
        Calls.fed(x, "HTTP/1.1 199 \r\n\r\n");
        due("behind a head that is forgotten", x.status(), 0);
        Calls.fed(x, "HTTP/1.1 503 \r\na:\r\n\r");
        due("before the head's end", x.status(), 0);
        x.feed(10);
        due("at the head's end", x.status(), 503);
        x.close();
        due("at the close", x.status(), 503);
        x.reset();
        due("behind reset()", x.status(), 0);
        Calls.fed(x, "HTTP/1.1 101 \r\n\r\n");
        due("101 is not forgotten", x.state() + " " + x.status(), "3 101");
    }
}
