import java.util.function.Consumer;

/**
 * The boundary cases of a declaration and its arguments, a sentence of the document each: Terms,
 * and promises 1 to 8.
 */
public final class DeclarationEdgesTest {
    private static final Answers ANSWERS = new Answers("DeclarationEdgesTest");
    private static final int[] FAR = {Integer.MIN_VALUE, Integer.MIN_VALUE + 1, -1000, 1000, Integer.MAX_VALUE};
    private static final String LETTERS = "abcdefghijklmnopqrstuvwxyz";
    private static final String OPERATORS = "+./;?&";
    private static final int[] MOST_ITEMS = {1, 3, 3, 3, 3, 1};
    private static final String FORTY = "/234567890123456789012345678901234567890".substring(0, 40);

    public static void main(String[] args) {
        calls();
        newObject();
        declareRange();
        declareKeeps();
        templateLength();
        templateChars();
        parameterCount();
        parameterRange();
        badBeforeFull();
        parameterWithoutItems();
        firstCharacter();
        literals();
        expressions();
        operators();
        behindLetter();
        behindStar();
        behindColon();
        behindDigit();
        behindComma();
        eachFault();
        firstFaultCounts();
        unknown();
        twice();
        unused();
        cutList();
        mixed();
        noBody();
        itemCount();
        itemRange();
        itemLength();
        itemChars();
        writeRange();
        emptyRange();
        emptyKeeps();
        ANSWERS.finish();
    }

    private static void sentence(String words) {
        ANSWERS.sentence(words);
    }

    private static void due(String what, Object got, Object want) {
        ANSWERS.due(what, got, want);
    }

    private static void keeps(String what, Consumer<TemplateCaller> past, Consumer<TemplateCaller> calls) {
        Twins.due(ANSWERS, what, past, calls);
    }

    private static int checked(int verb, String template, String kindsAndLetters) {
        TemplateCaller x = Calls.declared(verb, template);
        addParameters(x, kindsAndLetters);
        return x.check();
    }

    private static void addParameters(TemplateCaller x, String kindsAndLetters) {
        for (int i = 0; i < kindsAndLetters.length(); i += 2) {
            x.parameter(kindsAndLetters.charAt(i) - '0', kindsAndLetters.charAt(i + 1));
        }
    }

    /** A declaration, a request, and a reader in the midst of a head. */
    private static void ordinary(TemplateCaller x) {
        x.declare(Calls.POST);
        Calls.addTemplate(x, "/{a}{?b*}");
        Calls.add(x, Calls.TEXT, 'a', "12345678");
        Calls.add(x, Calls.LIST, 'b', "x");
        Calls.add(x, Calls.BODY, 'c');
        x.send();
        Calls.fed(x, "HTTP/1.1 200 ok\r\na: b\r\nc:");
    }

    private static void withSixParameters(TemplateCaller x) {
        Calls.addTemplate(x, "/");
        addParameters(x, "2a2b2c3d3e3f");
    }

    // Whole objects.

    private static void calls() {
        sentence("An object is used for at most 512 calls after it has been made");
        TemplateCaller x = new TemplateCaller();
        x.template('/');
        for (int n = 2; n < 512; n++) {
            due("check(), call " + n, x.check(), 0);
        }
        due("send(), call 512", x.send(), 27);
        x = new TemplateCaller();
        for (int n = 0; n < 510; n++) {
            due("feed(), call " + (n + 1), x.feed("HTTP/1.1 100 \r\n\r\n".charAt(n % 17)), 0);
        }
        due("feed(), call 511", x.feed('H'), 0);
        due("feed(), call 512", x.feed(10), 3);
    }

    private static void newObject() {
        sentence("The verb GET, an empty template, no parameters; no request; the reader at its beginning.");
        TemplateCaller x = new TemplateCaller();
        due("check()", x.check(), TemplateCaller.TEMPLATE);
        due("item(0)", x.item(0), false);
        due("sent(0)", x.sent(0), -1);
        due("state()", x.state(), 0);
        due("parameter()", x.parameter(Calls.TEXT, 'a'), 0);
        x = new TemplateCaller();
        due("a whole template of 40", added(x, FORTY), 40);
        due("a response", Calls.fed(x, "HTTP/1.1 200 \r\ncontent-length: 1\r\n\r\na"), 2);
    }

    private static void declareRange() {
        sentence("False, changing nothing, when verb is not 0 .. 4.");
        for (int verb = 0; verb <= 4; verb++) {
            due("declare(" + verb + ")", new TemplateCaller().declare(verb), true);
        }
        for (int verb : new int[] {-2, -1, 5, 6, 256, 1 << 16, Integer.MIN_VALUE, Integer.MAX_VALUE}) {
            due("declare(" + verb + ")", new TemplateCaller().declare(verb), false);
            keeps("declare(" + verb + ")", x -> { }, x -> x.declare(verb));
            keeps("declare(" + verb + ")", DeclarationEdgesTest::ordinary, x -> x.declare(verb));
            keeps("declare(" + verb + ")", DeclarationEdgesTest::withSixParameters, x -> x.declare(verb));
        }
    }

    private static void declareKeeps() {
        sentence("A new declaration with this verb, an empty template and no parameters; the request and the reader stay.");
        TemplateCaller x = Calls.declared(Calls.GET, FORTY);
        addParameters(x, "0a1a2b3c4d5e");
        due("the template is full", x.template('/'), false);
        due("the parameters are full", x.parameter(Calls.QUERY, 'q'), TemplateCaller.FULL);
        for (int verb = 0; verb <= 4; verb++) {
            due("declare(" + verb + ")", x.declare(verb), true);
            due("an empty template", x.check(), TemplateCaller.TEMPLATE);
            due("no parameters", x.empty(0), false);
            due("room for 40 characters", added(x, FORTY), 40);
            due("the first number", x.parameter(Calls.HEADER, 'h'), 0);
            due("no items", x.write(0, 'x'), false);
        }
        x = Calls.declared(Calls.GET, "/abc");
        int length = x.send();
        Calls.fed(x, "HTTP/1.1 200 ok\r\n\r\nab");
        x.declare(Calls.PUT);
        due("the request stays", Calls.sentText(x), "GET /abc HTTP/1.1\r\nhost: h\r\n\r\n");
        due("no byte behind it", x.sent(length), -1);
        due("the reader stays", x.state() + " " + x.status() + " " + Calls.contentText(x), "1 200 ab");
    }

    // The template.

    /** How many of the characters could be added. */
    private static int added(TemplateCaller x, String template) {
        int count = 0;
        for (char c : template.toCharArray()) {
            count += x.template(c) ? 1 : 0;
        }
        return count;
    }

    private static void templateLength() {
        sentence("False, changing nothing, when c is not 33 .. 126 or it has 40.");
        TemplateCaller x = new TemplateCaller();
        due("the first 39", added(x, FORTY.substring(0, 39)), 39);
        due("the 40th", x.template('?'), true);
        due("a 41st", x.template('z'), false);
        due("a 42nd that is none", x.template(' '), false);
        due("the target", Calls.target(x), FORTY.substring(0, 39) + "?");
        keeps("a 41st", y -> Calls.addTemplate(y, FORTY), y -> y.template('{'));
        String expression = "{a,a,a,a,a,a,a,a,a,a,a,a,a,a,a,a,a,a}";
        x = Calls.declared(Calls.GET, "///" + expression);
        Calls.add(x, Calls.TEXT, 'a', "b");
        due("an expression whose end is the 40th", Calls.target(x), "///" + "b,".repeat(17) + "b");
        x = Calls.declared(Calls.GET, "////" + expression);
        Calls.add(x, Calls.TEXT, 'a', "b");
        due("an expression whose end would be the 41st", x.check(), TemplateCaller.TEMPLATE);
    }

    private static void templateChars() {
        sentence("False, changing nothing, when c is not 33 .. 126 or it has 40.");
        for (int c = 0; c <= 65535; c++) {
            TemplateCaller x = new TemplateCaller();
            boolean right = c >= 33 && c <= 126;
            due("template(" + c + ")", x.template((char) c), right);
            if (!right) {
                x.template('/');
                due("a / behind the refused " + c, x.check(), 0);
            }
        }
    }

    private static void firstCharacter() {
        sentence("A TEMPLATE IS WELL FORMED when its first character is /");
        due("no character", checked(0, "", ""), TemplateCaller.TEMPLATE);
        for (char c = 33; c <= 126; c++) {
            due("first " + c, checked(0, String.valueOf(c), ""), c == '/' ? 0 : TemplateCaller.TEMPLATE);
            due("first " + c + ", then /", checked(0, c + "/", ""), c == '/' ? 0 : TemplateCaller.TEMPLATE);
        }
        due("an expression first", checked(0, "{/a}", "0a"), TemplateCaller.TEMPLATE);
        due("an expression directly behind it", checked(0, "/{/a}", "0a"), 0);
    }

    private static void literals() {
        sentence("A LITERAL is one of the letters a .. z and A .. Z, the digits, and - . _ ~ / ? = &.");
        String right = LETTERS + LETTERS.toUpperCase() + "0123456789-._~/?=&";
        for (char c = 33; c <= 126; c++) {
            int want = right.indexOf(c) >= 0 ? 0 : TemplateCaller.TEMPLATE;
            due("literal " + c, checked(0, "/" + c, ""), want);
            due("literal " + c + " between", checked(0, "/a" + c + "b", ""), want);
            due("literal " + c + " behind an expression", checked(0, "/{a}" + c, "0a"), want);
            if (want == 0) {
                due("what it stands for", Calls.target(Calls.declared(0, "/" + c)), "/" + c);
            }
        }
    }

    private static void expressions() {
        sentence("An EXPRESSION is {, an operator or none, one or more variables with a comma between two, }.");
        String[] none = {"/{}", "/{,}", "/{+}", "/{.}", "/{/}", "/{;}", "/{?}", "/{&}", "/{*}", "/{:1}", "/{a,}", "/{,a}",
            "/{a,,a}", "/{?,a}", "/{?a,}", "/{a", "/{", "/{?", "/{a*", "/{a:", "/{a:1", "/{a,", "/}", "/a}", "/{a}}",
            "/{{a}", "/{{a}}", "/{a{a}}", "/{a/b}", "/{a}{", "/{aa}", "/{a a}", "/{a}{}"};
        for (String template : none) {
            due("check() of " + template, checked(0, template, "0a"), TemplateCaller.TEMPLATE);
        }
        String[] some = {"/{a}", "/{a,a}", "/{a,a,a}", "/{?a*,a:9,a}", "/{a}{a}", "/{a}{?a}", "/{a}/{a}", "/{a}a{a}"};
        for (String template : some) {
            due("check() of " + template, checked(0, template, "0a"), 0);
        }
    }

    private static void operators() {
        sentence("The OPERATORS are + . / ; ? &.");
        for (char c = 33; c <= 126; c++) {
            boolean right = OPERATORS.indexOf(c) >= 0;
            due("operator " + c, checked(0, "/{" + c + "a}", "0a"), right ? 0 : TemplateCaller.TEMPLATE);
            due("operator " + c + " twice", checked(0, "/{" + c + c + "a}", "0a"), TemplateCaller.TEMPLATE);
            due("operator " + c + " later", checked(0, "/{a," + c + "a}", "0a"), TemplateCaller.TEMPLATE);
            due("operator " + c + " behind +", checked(0, "/{+" + c + "a}", "0a"), TemplateCaller.TEMPLATE);
        }
    }

    /** Whether exactly the characters give a well-formed template between the two parts. */
    private static void only(String right, String before, String behind) {
        for (char c = 33; c <= 126; c++) {
            String template = before + c + behind;
            boolean wellFormed = checked(0, template, "") != TemplateCaller.TEMPLATE;
            due("well formed: " + template, wellFormed, right.indexOf(c) >= 0);
        }
    }

    private static void behindLetter() {
        sentence("A VARIABLE is a letter a .. z, or that followed by * (SPREAD), or by : and a digit 1 .. 9 (CUT).");
        only(LETTERS, "/{", "}");
        only(LETTERS, "/{?", "}");
        only(LETTERS, "/{a,", "}");
        only("}", "/{a", "");
        only(",", "/{a", "a}");
        only("*", "/{a", "}");
        only(":", "/{a", "1}");
    }

    private static void behindStar() {
        only("}", "/{a*", "");
        only(",", "/{a*", "a}");
        only("", "/{a*", "}");
        only("", "/{a*:", "}");
    }

    private static void behindColon() {
        only("123456789", "/{a:", "}");
        only("123456789", "/{a:", ",b}");
        due("no digit", checked(0, "/{a:}", "0a"), TemplateCaller.TEMPLATE);
        due("no digit before a comma", checked(0, "/{a:,a}", "0a"), TemplateCaller.TEMPLATE);
    }

    private static void behindDigit() {
        only("}", "/{a:1", "");
        only(",", "/{a:1", "a}");
        only("", "/{a:1", "}");
        only("", "/{a:9*", "}");
    }

    private static void behindComma() {
        only(LETTERS, "/{a*,", "}");
        only(LETTERS, "/{a:3,", "*}");
        due("an end", checked(0, "/{a,}", "0a"), TemplateCaller.TEMPLATE);
    }

    // Parameters.

    private static void parameterCount() {
        sentence("at most six PARAMETERS, numbered from 0 in the order in which they were declared");
        for (int kind = 0; kind <= 5; kind++) {
            TemplateCaller x = new TemplateCaller();
            for (int k = 0; k < 6; k++) {
                due("parameter " + k, x.parameter(kind, 'a'), k);
                due("its item", x.item(k), true);
                due("none behind it", x.item(k + 1), false);
            }
            due("a seventh", x.parameter(kind, 'a'), TemplateCaller.FULL);
            due("an eighth", x.parameter(kind, 'b'), TemplateCaller.FULL);
        }
        for (int kind = 0; kind <= 5; kind++) {
            int seventh = kind;
            keeps("a seventh of kind " + kind, DeclarationEdgesTest::withSixParameters, x -> x.parameter(seventh, 'a'));
        }
    }

    private static void parameterRange() {
        sentence("BAD, changing nothing, when kind is not 0 .. 5 or letter not a .. z (97 .. 122)");
        for (int kind : new int[] {-2, -1, 6, 7, 256, 1 << 16, Integer.MIN_VALUE, Integer.MAX_VALUE}) {
            due("kind " + kind, new TemplateCaller().parameter(kind, 'a'), TemplateCaller.BAD);
            keeps("kind " + kind, DeclarationEdgesTest::ordinary, x -> x.parameter(kind, 'a'));
        }
        for (int letter = 0; letter <= 65535; letter++) {
            boolean right = letter >= 97 && letter <= 122;
            int want = right ? 0 : TemplateCaller.BAD;
            due("letter " + letter, new TemplateCaller().parameter(Calls.QUERY, (char) letter), want);
        }
        for (char letter : new char[] {0, 96, 123, 97 + 256, 65535}) {
            for (int kind = -1; kind <= 6; kind++) {
                int of = kind;
                due("kind " + kind + ", letter " + (int) letter, new TemplateCaller().parameter(of, letter), TemplateCaller.BAD);
                keeps("letter " + (int) letter, DeclarationEdgesTest::ordinary, x -> x.parameter(of, letter));
            }
        }
    }

    private static void badBeforeFull() {
        sentence("else FULL, changing nothing, when there are six");
        for (int count = 5; count <= 6; count++) {
            TemplateCaller x = new TemplateCaller();
            addParameters(x, "2a2b2c2d2e2f".substring(0, 2 * count));
            due("a wrong kind behind " + count, x.parameter(6, 'a'), TemplateCaller.BAD);
            due("a wrong kind behind " + count, x.parameter(-1, 'a'), TemplateCaller.BAD);
            due("a wrong letter behind " + count, x.parameter(0, '`'), TemplateCaller.BAD);
            due("a wrong letter behind " + count, x.parameter(5, '{'), TemplateCaller.BAD);
            due("both wrong behind " + count, x.parameter(6, 'A'), TemplateCaller.BAD);
            due("a right one behind " + count, x.parameter(5, 'z'), count == 5 ? 5 : TemplateCaller.FULL);
        }
    }

    private static void parameterWithoutItems() {
        sentence("Declares a parameter, without items: its number.");
        for (int before = 0; before <= 5; before++) {
            for (int kind = 0; kind <= 5; kind++) {
                TemplateCaller x = new TemplateCaller();
                for (int k = 0; k < 6; k++) {
                    x.parameter(before, 'a');
                    Calls.addItem(x, k, "12345678");
                    Calls.addItem(x, k, "");
                }
                x.declare(Calls.GET);
                for (int k = 0; k < 6; k++) {
                    due("parameter " + k, x.parameter(kind, 'a'), k);
                    due("no item of parameter " + k, x.write(k, 'x'), false);
                    due("an item", x.item(k), true);
                    due("a char of it", x.write(k, 'x'), true);
                }
            }
        }
    }

    // The faults of a declaration.

    private static void eachFault() {
        sentence("The FAULTS of a declaration; the first one of the list that holds counts");
        due("none", checked(2, "/{a}{b:1}{c*}", "0a0b1c4d4d2a"), 0);
        due("TEMPLATE", checked(2, "/{a}{", "0a"), TemplateCaller.TEMPLATE);
        due("UNKNOWN", checked(2, "/{a}", ""), TemplateCaller.UNKNOWN);
        due("TWICE", checked(2, "/{a}", "0a0a"), TemplateCaller.TWICE);
        due("UNUSED", checked(2, "/", "0a"), TemplateCaller.UNUSED);
        due("CUTLIST", checked(2, "/{a:9}", "1a"), TemplateCaller.CUTLIST);
        due("MIXED", checked(2, "/", "4a5a"), TemplateCaller.MIXED);
        due("NOBODY", checked(0, "/", "5a"), TemplateCaller.NOBODY);
    }

    private static void firstFaultCounts() {
        sentence("The FAULTS of a declaration; the first one of the list that holds counts");
        for (int faults = 0; faults < 128; faults++) {
            boolean mixed = has(faults, 6);
            boolean noBody = has(faults, 7);
            String template = "/" + (has(faults, 2) ? "{u}" : "") + (has(faults, 3) ? "{t}" : "")
                + (has(faults, 5) ? "{c:1}" : "") + (has(faults, 1) ? "{" : "");
            String parameters = (has(faults, 3) ? "0t1t" : "") + (has(faults, 4) ? "0n" : "")
                + (has(faults, 5) ? "1c" : "") + (mixed ? "5x4y" : noBody ? "4y" : "");
            int want = faults == 0 ? 0 : -1 - Integer.numberOfTrailingZeros(faults);
            TemplateCaller x = Calls.declared(noBody ? Calls.GET : Calls.PUT, template);
            addParameters(x, parameters);
            due("check() of " + template + " " + parameters, x.check(), want);
            due("check() again", x.check(), want);
            due("send() of it", Math.min(0, x.send()), want);
        }
    }

    private static boolean has(int faults, int fault) {
        return (faults >> fault - 1 & 1) == 1;
    }

    private static void unknown() {
        sentence("UNKNOWN: the letter of some variable is not that of a TEXT or LIST parameter.");
        for (int kind = 0; kind <= 5; kind++) {
            int want = kind <= 1 ? 0 : TemplateCaller.UNKNOWN;
            due("kind " + kind, checked(2, "/{a}", kind + "a"), want);
        }
        for (String template : new String[] {"/{b}", "/{a,b}", "/{b,a}", "/{a}{b}", "/{b}{a}", "/{a}{?a,a,b*}", "/{a,b:1}"}) {
            due("check() of " + template, checked(2, template, "0a"), TemplateCaller.UNKNOWN);
            due("check() of " + template + " with QUERY b", checked(2, template, "0a2b"), TemplateCaller.UNKNOWN);
        }
        due("a letter that is a literal too", checked(2, "/b{a}b", "0a"), 0);
        due("the sixth parameter's letter", checked(2, "/{a}", "2a2b3a4a4b1a"), 0);
    }

    private static void twice() {
        sentence("TWICE: two TEXT or LIST parameters have the same letter.");
        for (int one = 0; one <= 5; one++) {
            for (int other = 0; other <= 5; other++) {
                boolean known = one <= 1 || other <= 1;
                boolean twice = one <= 1 && other <= 1;
                boolean mixed = one + other == 10 || one + other == 9;
                int want = twice ? TemplateCaller.TWICE : !known ? TemplateCaller.UNKNOWN : 0;
                due("kinds " + one + " and " + other, checked(2, "/{a}", one + "a" + other + "a"), want);
                want = twice ? TemplateCaller.UNUSED : known ? TemplateCaller.UNUSED : mixed ? TemplateCaller.MIXED : 0;
                due("kinds " + one + " and " + other + ", other letters", checked(2, "/", one + "a" + other + "b"), want);
            }
        }
        due("the first and the sixth", checked(2, "/{a}", "0a2b2c2d2e1a"), TemplateCaller.TWICE);
        due("the fifth and the sixth", checked(2, "/{a}", "2b2c2d2e1a1a"), TemplateCaller.TWICE);
        due("twice, and not in the template", checked(2, "/", "0a0a"), TemplateCaller.TWICE);
    }

    private static void unused() {
        sentence("UNUSED: the letter of some TEXT or LIST parameter is not that of a variable.");
        for (int kind = 0; kind <= 5; kind++) {
            int want = kind <= 1 ? TemplateCaller.UNUSED : 0;
            due("kind " + kind, checked(2, "/", kind + "a"), want);
            due("a literal, kind " + kind, checked(2, "/a", kind + "a"), want);
            due("behind an expression, kind " + kind, checked(2, "/{b}a", "0b" + kind + "a"), want);
            due("before an expression, kind " + kind, checked(2, "/a{b}", "0b" + kind + "a"), want);
        }
        due("used once, last", checked(2, "/{b}{?b,b,a}", "0b0a"), 0);
        due("the sixth is not used", checked(2, "/{b}", "0b2c2c2c2c1a"), TemplateCaller.UNUSED);
    }

    private static void cutList() {
        sentence("CUTLIST: the letter of a variable that is cut is that of a LIST parameter.");
        for (char digit = '1'; digit <= '9'; digit++) {
            due("a LIST cut to " + digit, checked(2, "/{a:" + digit + "}", "1a"), TemplateCaller.CUTLIST);
            due("a TEXT cut to " + digit, checked(2, "/{a:" + digit + "}", "0a"), 0);
        }
        due("cut once of three", checked(2, "/{a}{a*}{?b:1,a:1}", "1a0b"), TemplateCaller.CUTLIST);
        due("never cut", checked(2, "/{a}{a*}{?b:1,a}", "1a0b"), 0);
        due("a TEXT that is cut and a QUERY of the letter", checked(2, "/{a:1}", "2a0a"), 0);
    }

    private static void mixed() {
        sentence("MIXED: there are two BODY parameters, or a BODY and a FIELD.");
        due("one BODY", checked(2, "/", "5a"), 0);
        due("two", checked(2, "/", "5a5b"), TemplateCaller.MIXED);
        due("two with one letter", checked(2, "/", "5a5a"), TemplateCaller.MIXED);
        due("two, far from each other", checked(2, "/", "5a2b2c2d2e5f"), TemplateCaller.MIXED);
        due("a BODY, then a FIELD", checked(2, "/", "5a4b"), TemplateCaller.MIXED);
        due("a FIELD, then a BODY", checked(2, "/", "4b5a"), TemplateCaller.MIXED);
        due("five FIELDs and a BODY", checked(2, "/", "4b4b4b4b4b5a"), TemplateCaller.MIXED);
        due("six FIELDs", checked(2, "/", "4b4b4b4b4b4b"), 0);
    }

    private static void noBody() {
        sentence("NOBODY: there is a BODY or a FIELD, and the verb is GET, HEAD or DELETE.");
        for (int verb = 0; verb <= 4; verb++) {
            int want = verb == 2 || verb == 3 ? 0 : TemplateCaller.NOBODY;
            due("BODY with verb " + verb, checked(verb, "/", "5a"), want);
            due("FIELD with verb " + verb, checked(verb, "/", "4a"), want);
            due("FIELD as the sixth with verb " + verb, checked(verb, "/", "2a2a2a2a2a4a"), want);
            due("QUERY and HEADER with verb " + verb, checked(verb, "/", "2a3a"), 0);
        }
    }

    // Items.

    private static void itemCount() {
        sentence("at most 1 for TEXT and BODY, at most 3 for the others");
        for (int kind = 0; kind <= 5; kind++) {
            TemplateCaller x = new TemplateCaller();
            x.parameter(kind, 'a');
            due("at first none, kind " + kind, x.write(0, 'x'), false);
            for (int n = 1; n <= MOST_ITEMS[kind]; n++) {
                due("item " + n + " of kind " + kind, x.item(0), true);
            }
            due("one more of kind " + kind, x.item(0), false);
            int of = kind;
            keeps("one item more of kind " + kind, y -> withItems(y, of), y -> y.item(0));
            x.empty(0);
            due("one behind empty, kind " + kind, x.item(0), true);
            due("two behind empty, kind " + kind, x.item(0), MOST_ITEMS[kind] == 3);
        }
    }

    /** As many items as the kind may have, the last one of seven chars. */
    private static void withItems(TemplateCaller x, int kind) {
        x.declare(Calls.PUT);
        Calls.addTemplate(x, kind <= 1 ? "/{a}" : "/");
        x.parameter(kind, 'a');
        for (int n = 0; n < MOST_ITEMS[kind]; n++) {
            Calls.addItem(x, 0, "1234567");
        }
    }

    private static void itemRange() {
        sentence("False, changing nothing, when there is no such parameter or it has as many items as it may have.");
        due("item(0) with none", new TemplateCaller().item(0), false);
        for (int count = 0; count <= 6; count++) {
            TemplateCaller x = Calls.declared(Calls.PUT, "/");
            addParameters(x, "2a3b4c2d3e4f".substring(0, 2 * count));
            due("item(-1)", x.item(-1), false);
            due("item(" + count + ") with " + count, x.item(count), false);
            for (int k : FAR) {
                due("item(" + k + ")", x.item(k), false);
                keeps("item(" + k + ")", DeclarationEdgesTest::ordinary, y -> y.item(k));
            }
            for (int k = 0; k < count; k++) {
                due("item(" + k + ") with " + count, x.item(k), true);
            }
        }
        keeps("item(-1)", DeclarationEdgesTest::ordinary, x -> x.item(-1));
        keeps("item(3) with three", DeclarationEdgesTest::ordinary, x -> x.item(3));
        keeps("item(6) with six", DeclarationEdgesTest::withSixParameters, x -> x.item(6));
    }

    private static void itemLength() {
        sentence("An item is a row of at most 8 chars (any, 0 .. 65535).");
        for (int kind = 0; kind <= 5; kind++) {
            TemplateCaller x = Calls.declared(Calls.PUT, kind <= 1 ? "/{a}" : "/");
            x.parameter(kind, 'a');
            for (int n = 0; n < MOST_ITEMS[kind]; n++) {
                x.item(0);
                for (int i = 1; i <= 8; i++) {
                    due("char " + i + " of item " + n, x.write(0, (char) ('0' + i)), true);
                }
                due("a ninth", x.write(0, '9'), false);
                due("a tenth", x.write(0, '\ud800'), false);
            }
            x.send();
            due("all of kind " + kind, Calls.sentText(x).split("12345678", -1).length - 1, MOST_ITEMS[kind]);
            due("no ninth of kind " + kind, Calls.sentText(x).contains("123456789"), false);
        }
    }

    private static void itemChars() {
        sentence("An item is a row of at most 8 chars (any, 0 .. 65535).");
        for (int first = 0; first <= 65535; first += 8) {
            TemplateCaller x = new TemplateCaller();
            x.parameter(Calls.QUERY, 'a');
            x.item(0);
            for (int c = first; c < first + 8; c++) {
                due("write(0, " + c + ")", x.write(0, (char) c), true);
            }
        }
    }

    private static void writeRange() {
        sentence("False, changing nothing, when there is no such parameter, it has no item, or the item has 8 chars.");
        due("write(0) with none", new TemplateCaller().write(0, 'x'), false);
        for (int count = 0; count <= 6; count++) {
            TemplateCaller x = new TemplateCaller();
            addParameters(x, "2a3b4c2d3e4f".substring(0, 2 * count));
            for (int k = -1; k <= 7; k++) {
                due("write(" + k + ") without an item", x.write(k, 'x'), false);
            }
            for (int k = 0; k < count; k++) {
                x.item(k);
                due("write(" + k + ") with an item", x.write(k, 'x'), true);
            }
            due("write(-1)", x.write(-1, 'x'), false);
            due("write(" + count + ") with " + count, x.write(count, 'x'), false);
        }
        for (int k : FAR) {
            due("write(" + k + ")", Calls.declared(0, "/").write(k, 'x'), false);
            keeps("write(" + k + ")", DeclarationEdgesTest::ordinary, x -> x.write(k, 'x'));
        }
        keeps("write(-1)", DeclarationEdgesTest::ordinary, x -> x.write(-1, 'x'));
        keeps("write(3) with three", DeclarationEdgesTest::ordinary, x -> x.write(3, 'x'));
        keeps("write() to an item of 8", DeclarationEdgesTest::ordinary, x -> x.write(0, 'x'));
        keeps("write() without an item", DeclarationEdgesTest::ordinary, x -> x.write(2, 'x'));
    }

    private static void emptyRange() {
        sentence("False when there is no such parameter.");
        due("empty(0) with none", new TemplateCaller().empty(0), false);
        for (int count = 0; count <= 6; count++) {
            TemplateCaller x = new TemplateCaller();
            addParameters(x, "2a3b4c2d3e4f".substring(0, 2 * count));
            due("empty(-1)", x.empty(-1), false);
            due("empty(" + count + ") with " + count, x.empty(count), false);
            for (int k = 0; k < count; k++) {
                due("empty(" + k + ") with " + count, x.empty(k), true);
            }
            for (int k : FAR) {
                due("empty(" + k + ")", x.empty(k), false);
                keeps("empty(" + k + ")", DeclarationEdgesTest::ordinary, y -> y.empty(k));
            }
        }
        keeps("empty(-1)", DeclarationEdgesTest::ordinary, x -> x.empty(-1));
        keeps("empty(3) with three", DeclarationEdgesTest::ordinary, x -> x.empty(3));
    }

    private static void emptyKeeps() {
        sentence("The argument of parameter k has no items from now on: true (also if it had none).");
        for (int kind = 0; kind <= 5; kind++) {
            TemplateCaller x = new TemplateCaller();
            withItems(x, kind);
            due("empty(0) of kind " + kind, x.empty(0), true);
            due("empty(0) again", x.empty(0), true);
            due("no item to write to", x.write(0, 'x'), false);
            x.send();
            due("no item of kind " + kind, Calls.sentText(x).contains("1234567"), false);
            due("the parameter stays", x.parameter(Calls.QUERY, 'q'), 1);
            x.item(0);
            x.write(0, 'N');
            x.send();
            due("only the new item of kind " + kind, Calls.sentText(x).contains("1234567"), false);
        }
        keeps("empty() of a parameter without items", DeclarationEdgesTest::ordinary, x -> x.empty(2));
        TemplateCaller x = Calls.declared(Calls.GET, "/");
        Calls.add(x, Calls.QUERY, 'a', "1");
        Calls.add(x, Calls.QUERY, 'a', "2");
        Calls.add(x, Calls.QUERY, 'a', "3");
        x.empty(1);
        due("the others' items stay", Calls.target(x), "/?a=1&a=3");
    }
}
