/**
 * Calls that are declared once, by a template of a path and by parameters, become requests as
 * bytes whatever the arguments are, or are refused; and bytes that come back are read as a
 * response, strictly.
 */
public final class TemplateCaller {
    public static final int TEMPLATE = -1;
    public static final int UNKNOWN = -2;
    public static final int TWICE = -3;
    public static final int UNUSED = -4;
    public static final int CUTLIST = -5;
    public static final int MIXED = -6;
    public static final int NOBODY = -7;
    public static final int LONE = -8;
    public static final int UNFIT = -9;
    public static final int LONG = -10;
    public static final int BAD = -11;
    public static final int FULL = -12;

    private static final int MOST_REQUEST_BYTES = 1000;
    private static final int MOST_CONTENT_BYTES = 120;

    private final Declaration declaration;
    private final RequestWriter writer;
    private final Reader reader;
    private ByteRow made;
    // A request is made here and takes the place of the old one only when it fits.
    private ByteRow spare;

    public TemplateCaller() {
        declaration = new Declaration();
        writer = new RequestWriter(declaration);
        reader = new Reader();
        made = new ByteRow(MOST_REQUEST_BYTES);
        spare = new ByteRow(MOST_REQUEST_BYTES);
    }

    public boolean declare(int verb) {
        if (verb < Declaration.GET || verb > Declaration.DELETE) {
            return false;
        }
        declaration.begin(verb);
        return true;
    }

    public boolean template(char c) {
        return declaration.path.add(c);
    }

    public int parameter(int kind, char letter) {
        if (kind < Parameter.TEXT || kind > Parameter.BODY || !Chars.isSmall(letter)) {
            return BAD;
        }
        return declaration.addParameter(kind, letter);
    }

    public int check() {
        return declaration.fault();
    }

    public boolean item(int k) {
        Parameter parameter = declaration.parameterAt(k);
        return parameter != null && parameter.addItem();
    }

    public boolean write(int k, char c) {
        Parameter parameter = declaration.parameterAt(k);
        return parameter != null && parameter.addChar(c);
    }

    public boolean empty(int k) {
        Parameter parameter = declaration.parameterAt(k);
        if (parameter == null) {
            return false;
        }
        parameter.dropItems();
        return true;
    }

    public int send() {
        int fault = declaration.fault();
        if (fault == 0) {
            fault = declaration.argumentFault();
        }
        if (fault != 0) {
            return fault;
        }
        writer.compose(spare);
        if (spare.size > MOST_REQUEST_BYTES) {
            return LONG;
        }
        ByteRow old = made;
        made = spare;
        spare = old;
        return made.size;
    }

    public int sent(int i) {
        return made.at(i);
    }

    public int feed(int b) {
        if (b < 0 || b > 255) {
            return BAD;
        }
        reader.take(b, declaration.verb);
        return reader.state;
    }

    public int close() {
        reader.end();
        return reader.state;
    }

    public void reset() {
        reader.restart();
    }

    public int state() {
        return reader.state;
    }

    public int status() {
        return reader.endedStatus;
    }

    public int fields() {
        return reader.head.fieldLines;
    }

    public int length() {
        return reader.body.size;
    }

    public int content(int i) {
        return reader.body.at(i);
    }

    private static final class Chars {
        private static final String UNRESERVED_MARKS = "-._~";
        private static final String LITERAL_MARKS = "-._~/?=&";
        private static final String OPERATORS = "+./;?&";
        private static final String LOOSE_MARKS = ":/?@!$&'()*+,;=";

        static boolean isSmall(char c) {
            return c >= 'a' && c <= 'z';
        }

        static boolean isDigit(char c) {
            return c >= '0' && c <= '9';
        }

        static boolean isLetterOrDigit(char c) {
            return c >= 'a' && c <= 'z' || c >= 'A' && c <= 'Z' || c >= '0' && c <= '9';
        }

        static boolean isUnreserved(char c) {
            return isLetterOrDigit(c) || UNRESERVED_MARKS.indexOf(c) >= 0;
        }

        static boolean isLiteral(char c) {
            return isLetterOrDigit(c) || LITERAL_MARKS.indexOf(c) >= 0;
        }

        static boolean isOperator(char c) {
            return OPERATORS.indexOf(c) >= 0;
        }

        static boolean isLooseMark(char c) {
            return LOOSE_MARKS.indexOf(c) >= 0;
        }

        static boolean isBlank(char c) {
            return c == ' ' || c == '\t';
        }

        static char toSmall(char c) {
            return c >= 'A' && c <= 'Z' ? (char) (c - 'A' + 'a') : c;
        }

        /** The value of a hexadecimal digit; -1 when c is none. */
        static int hexValue(char c) {
            if (c >= '0' && c <= '9') {
                return c - '0';
            }
            if (c >= 'a' && c <= 'f') {
                return c - 'a' + 10;
            }
            return c >= 'A' && c <= 'F' ? c - 'A' + 10 : -1;
        }

        static int hexDigit(int value) {
            return value < 10 ? '0' + value : 'A' + value - 10;
        }
    }

    private static final class Item {
        private static final int MOST_CHARS = 8;
        // The high chars go from the first high one up to the first low one.
        private static final int FIRST_HIGH = 55296;
        private static final int FIRST_LOW = 56320;
        private static final int LAST_LOW = 57343;

        private final char[] chars = new char[MOST_CHARS];
        private int size = 0;

        boolean add(char c) {
            if (size >= MOST_CHARS) {
                return false;
            }
            chars[size] = c;
            size++;
            return true;
        }

        /** The char at i; 0 when there is none. */
        char at(int i) {
            return i >= 0 && i < size ? chars[i] : 0;
        }

        boolean isPair(int i) {
            return i >= 0 && i + 1 < size
                && chars[i] >= FIRST_HIGH && chars[i] < FIRST_LOW
                && chars[i + 1] >= FIRST_LOW && chars[i + 1] <= LAST_LOW;
        }

        /** The number that stands for the character that begins at i. */
        int codeAt(int i) {
            if (!isPair(i)) {
                return at(i);
            }
            return 65536 + 1024 * (at(i) - FIRST_HIGH) + (at(i + 1) - FIRST_LOW);
        }

        /** The index behind the first characters, so many of them or all. */
        int endOf(int characters) {
            int end = 0;
            for (int n = 0; n < characters && end < size; n++) {
                end += isPair(end) ? 2 : 1;
            }
            return end;
        }

        boolean hasLone() {
            for (int i = 0; i < size; i += isPair(i) ? 2 : 1) {
                if (!isPair(i) && at(i) >= FIRST_HIGH && at(i) <= LAST_LOW) {
                    return true;
                }
            }
            return false;
        }

        boolean fitsHeader() {
            for (int i = 0; i < size; i++) {
                if (chars[i] < 32 || chars[i] > 126) {
                    return false;
                }
            }
            return at(0) != ' ' && at(size - 1) != ' ';
        }

        /** Whether a % stands at i and two hexadecimal digits behind it, all before end. */
        boolean isEscape(int i, int end) {
            return at(i) == '%' && i + 2 < end
                && Chars.hexValue(at(i + 1)) >= 0 && Chars.hexValue(at(i + 2)) >= 0;
        }
    }

    private static final class Parameter {
        static final int TEXT = 0;
        static final int LIST = 1;
        static final int QUERY = 2;
        static final int HEADER = 3;
        static final int FIELD = 4;
        static final int BODY = 5;
        private static final int MOST_ITEMS = 3;

        private final Item[] items = new Item[MOST_ITEMS];
        private int count = 0;
        private int kind = TEXT;
        private char letter = 'a';

        Parameter() {
            for (int i = 0; i < MOST_ITEMS; i++) {
                items[i] = new Item();
            }
        }

        void begin(int newKind, char newLetter) {
            kind = newKind;
            letter = newLetter;
            count = 0;
        }

        boolean isInPath() {
            return kind == TEXT || kind == LIST;
        }

        boolean addItem() {
            int most = kind == TEXT || kind == BODY ? 1 : MOST_ITEMS;
            if (count >= most) {
                return false;
            }
            items[count].size = 0;
            count++;
            return true;
        }

        boolean addChar(char c) {
            return count > 0 && items[count - 1].add(c);
        }

        void dropItems() {
            count = 0;
        }

        boolean hasLone() {
            for (int i = 0; i < count; i++) {
                if (items[i].hasLone()) {
                    return true;
                }
            }
            return false;
        }

        boolean fitsHeader() {
            for (int i = 0; i < count; i++) {
                if (!items[i].fitsHeader()) {
                    return false;
                }
            }
            return true;
        }
    }

    private static final class PathTemplate {
        static final char NO_OPERATOR = ' ';
        private static final int MOST_CHARS = 40;

        // The places of a walk through the template: what was read last, so what may follow.
        private static final int OUTSIDE = 0;
        private static final int OPENED = 1;
        private static final int BEFORE_VARIABLE = 2;
        private static final int BEHIND_LETTER = 3;
        private static final int BEHIND_COLON = 4;
        private static final int BEHIND_VARIABLE = 5;
        private static final int WRONG = 6;

        private final char[] text = new char[MOST_CHARS];
        private int size = 0;

        boolean add(char c) {
            if (c < 33 || c > 126 || size >= MOST_CHARS) {
                return false;
            }
            text[size] = c;
            size++;
            return true;
        }

        /** The character at i; 0, which no template has, when there is none. */
        char at(int i) {
            return i >= 0 && i < size ? text[i] : 0;
        }

        boolean isWellFormed() {
            if (at(0) != '/') {
                return false;
            }
            int place = OUTSIDE;
            for (int i = 0; i < size; i++) {
                place = placeBehind(place, text[i]);
            }
            return place == OUTSIDE;
        }

        private static int placeBehind(int place, char c) {
            switch (place) {
                case OUTSIDE:
                    return c == '{' ? OPENED : Chars.isLiteral(c) ? OUTSIDE : WRONG;
                case OPENED:
                    return Chars.isOperator(c) ? BEFORE_VARIABLE : Chars.isSmall(c) ? BEHIND_LETTER : WRONG;
                case BEFORE_VARIABLE:
                    return Chars.isSmall(c) ? BEHIND_LETTER : WRONG;
                case BEHIND_LETTER:
                    return c == '*' ? BEHIND_VARIABLE : c == ':' ? BEHIND_COLON : placeBehindVariable(c);
                case BEHIND_COLON:
                    return c >= '1' && c <= '9' ? BEHIND_VARIABLE : WRONG;
                case BEHIND_VARIABLE:
                    return placeBehindVariable(c);
                default:
                    return WRONG;
            }
        }

        private static int placeBehindVariable(char c) {
            return c == ',' ? BEFORE_VARIABLE : c == '}' ? OUTSIDE : WRONG;
        }

        // What follows is asked of well-formed templates alone.

        boolean isVariable(int i) {
            if (!Chars.isSmall(at(i))) {
                return false;
            }
            for (int before = i - 1; before >= 0; before--) {
                if (text[before] == '{' || text[before] == '}') {
                    return text[before] == '{';
                }
            }
            return false;
        }

        boolean isSpread(int variable) {
            return at(variable + 1) == '*';
        }

        boolean isCut(int variable) {
            return at(variable + 1) == ':';
        }

        /** How many characters of an item count for the variable. */
        int charactersFor(int variable) {
            return isCut(variable) ? at(variable + 2) - '0' : Item.MOST_CHARS;
        }

        char operatorBehind(int brace) {
            char c = at(brace + 1);
            return Chars.isOperator(c) ? c : NO_OPERATOR;
        }
    }

    private static final class Declaration {
        static final int GET = 0;
        static final int HEAD = 1;
        static final int POST = 2;
        static final int PUT = 3;
        static final int DELETE = 4;
        private static final int MOST_PARAMETERS = 6;

        private final PathTemplate path = new PathTemplate();
        private final Parameter[] parameters = new Parameter[MOST_PARAMETERS];
        private int count = 0;
        private int verb = GET;

        Declaration() {
            for (int i = 0; i < MOST_PARAMETERS; i++) {
                parameters[i] = new Parameter();
            }
        }

        void begin(int newVerb) {
            verb = newVerb;
            path.size = 0;
            count = 0;
        }

        String verbName() {
            switch (verb) {
                case HEAD:
                    return "HEAD";
                case POST:
                    return "POST";
                case PUT:
                    return "PUT";
                case DELETE:
                    return "DELETE";
                default:
                    return "GET";
            }
        }

        boolean mayHaveContent() {
            return verb == POST || verb == PUT;
        }

        /** The new parameter's number, or FULL. */
        int addParameter(int kind, char letter) {
            if (count >= MOST_PARAMETERS) {
                return FULL;
            }
            parameters[count].begin(kind, letter);
            count++;
            return count - 1;
        }

        Parameter parameterAt(int k) {
            return k >= 0 && k < count ? parameters[k] : null;
        }

        /** The first TEXT or LIST parameter with the letter; null when there is none. */
        Parameter parameterOf(char letter) {
            for (int k = 0; k < count; k++) {
                if (parameters[k].isInPath() && parameters[k].letter == letter) {
                    return parameters[k];
                }
            }
            return null;
        }

        int fault() {
            if (!path.isWellFormed()) {
                return TEMPLATE;
            }
            if (hasUnknownVariable()) {
                return UNKNOWN;
            }
            if (hasLetterTwice()) {
                return TWICE;
            }
            if (hasUnusedParameter()) {
                return UNUSED;
            }
            if (hasCutList()) {
                return CUTLIST;
            }
            int bodies = countOf(Parameter.BODY);
            int fields = countOf(Parameter.FIELD);
            if (bodies > 1 || bodies > 0 && fields > 0) {
                return MIXED;
            }
            return bodies + fields > 0 && !mayHaveContent() ? NOBODY : 0;
        }

        /** LONE, UNFIT, or 0 when the arguments have neither fault. */
        int argumentFault() {
            for (int k = 0; k < count; k++) {
                if (parameters[k].hasLone()) {
                    return LONE;
                }
            }
            for (int k = 0; k < count; k++) {
                if (parameters[k].kind == Parameter.HEADER && !parameters[k].fitsHeader()) {
                    return UNFIT;
                }
            }
            return 0;
        }

        private boolean hasUnknownVariable() {
            for (int i = 0; i < path.size; i++) {
                if (path.isVariable(i) && parameterOf(path.at(i)) == null) {
                    return true;
                }
            }
            return false;
        }

        private boolean hasLetterTwice() {
            for (int k = 0; k < count; k++) {
                for (int other = 0; other < k; other++) {
                    if (parameters[k].isInPath() && parameters[other].isInPath()
                        && parameters[k].letter == parameters[other].letter) {
                        return true;
                    }
                }
            }
            return false;
        }

        private boolean hasUnusedParameter() {
            for (int k = 0; k < count; k++) {
                if (parameters[k].isInPath() && !hasVariable(parameters[k].letter)) {
                    return true;
                }
            }
            return false;
        }

        private boolean hasVariable(char letter) {
            for (int i = 0; i < path.size; i++) {
                if (path.at(i) == letter && path.isVariable(i)) {
                    return true;
                }
            }
            return false;
        }

        private boolean hasCutList() {
            for (int i = 0; i < path.size; i++) {
                if (path.isVariable(i) && path.isCut(i)) {
                    Parameter parameter = parameterOf(path.at(i));
                    if (parameter != null && parameter.kind == Parameter.LIST) {
                        return true;
                    }
                }
            }
            return false;
        }

        private int countOf(int kind) {
            int found = 0;
            for (int k = 0; k < count; k++) {
                if (parameters[k].kind == kind) {
                    found++;
                }
            }
            return found;
        }
    }

    /** A row of bytes that keeps as many as it has room for, and counts them all. */
    private static final class ByteRow {
        private final byte[] bytes;
        private int size = 0;

        ByteRow(int room) {
            bytes = new byte[room];
        }

        void put(int b) {
            if (size < bytes.length) {
                bytes[size] = (byte) b;
            }
            size++;
        }

        void putText(String text) {
            for (int i = 0; i < text.length(); i++) {
                put(text.charAt(i));
            }
        }

        /** Puts a number 0 .. 9999, far more than a request can count, in decimal. */
        void putNumber(int number) {
            for (int unit = 1000; unit > 0; unit /= 10) {
                if (number >= unit || unit == 1) {
                    put('0' + number / unit % 10);
                }
            }
        }

        boolean has(int b) {
            for (int i = 0; i < size && i < bytes.length; i++) {
                if (bytes[i] == b) {
                    return true;
                }
            }
            return false;
        }

        /** Byte i; -1 when there is none. */
        int at(int i) {
            return i >= 0 && i < size && i < bytes.length ? bytes[i] & 255 : -1;
        }
    }

    /** Puts items as bytes, in the ways in which a request holds them. */
    private static final class Encoder {
        static final int PLAIN = 0;
        static final int LOOSE = 1;
        static final int FORM = 2;

        /** Puts the item's chars before end, as if it had no others. */
        static void putEncoded(ByteRow out, Item item, int end, int manner) {
            for (int i = 0; i < end; i += item.isPair(i) ? 2 : 1) {
                char c = item.at(i);
                if (Chars.isUnreserved(c)) {
                    out.put(c);
                } else if (manner == LOOSE && (Chars.isLooseMark(c) || item.isEscape(i, end))) {
                    out.put(c);
                } else if (manner == FORM && c == ' ') {
                    out.put('+');
                } else {
                    putEscaped(out, item.codeAt(i));
                }
            }
        }

        static void putUtf8(ByteRow out, Item item) {
            for (int i = 0; i < item.size; i += item.isPair(i) ? 2 : 1) {
                int code = item.codeAt(i);
                int count = utf8Count(code);
                for (int n = 0; n < count; n++) {
                    out.put(utf8Byte(code, n, count));
                }
            }
        }

        private static void putEscaped(ByteRow out, int code) {
            int count = utf8Count(code);
            for (int n = 0; n < count; n++) {
                int b = utf8Byte(code, n, count);
                out.put('%');
                out.put(Chars.hexDigit(b >> 4));
                out.put(Chars.hexDigit(b & 15));
            }
        }

        private static int utf8Count(int code) {
            return code < 128 ? 1 : code < 2048 ? 2 : code < 65536 ? 3 : 4;
        }

        /** Byte n of the count bytes that the code has in UTF-8. */
        private static int utf8Byte(int code, int n, int count) {
            int bits = code >> 6 * (count - 1 - n);
            if (n > 0) {
                return 128 + (bits & 63);
            }
            switch (count) {
                case 1:
                    return bits;
                case 2:
                    return 192 + bits;
                case 3:
                    return 224 + bits;
                default:
                    return 240 + bits;
            }
        }
    }

    private static final class RequestWriter {
        private final Declaration declaration;
        private final PathTemplate path;
        // Has no room: the content's length is told before the content comes.
        private final ByteRow counter = new ByteRow(0);

        RequestWriter(Declaration declaration) {
            this.declaration = declaration;
            this.path = declaration.path;
        }

        /** Only for a declaration and arguments without a fault. */
        void compose(ByteRow out) {
            out.size = 0;
            out.putText(declaration.verbName());
            out.put(' ');
            putExpanded(out);
            putQuery(out);
            out.putText(" HTTP/1.1\r\nhost: h\r\n");
            putHeaders(out);
            if (declaration.mayHaveContent()) {
                counter.size = 0;
                putBodyOrForm(counter);
                out.putText("content-length: ");
                out.putNumber(counter.size);
                out.putText("\r\n");
            }
            out.putText("\r\n");
            putBodyOrForm(out);
        }

        private void putExpanded(ByteRow out) {
            boolean inside = false;
            boolean started = false;
            char operator = PathTemplate.NO_OPERATOR;
            for (int i = 0; i < path.size; i++) {
                char c = path.at(i);
                if (c == '{') {
                    inside = true;
                    started = false;
                    operator = path.operatorBehind(i);
                } else if (c == '}') {
                    inside = false;
                } else if (!inside) {
                    out.put(c);
                } else if (Chars.isSmall(c)) {
                    Parameter parameter = declaration.parameterOf(c);
                    if (parameter != null && parameter.count > 0) {
                        putStartOrBreak(out, operator, started);
                        putVariable(out, i, parameter, operator);
                        started = true;
                    }
                }
            }
        }

        private static void putStartOrBreak(ByteRow out, char operator, boolean started) {
            if (started) {
                out.put(breakOf(operator));
            } else if (startsWithItself(operator)) {
                out.put(operator);
            }
        }

        private static boolean startsWithItself(char operator) {
            return operator != PathTemplate.NO_OPERATOR && operator != '+';
        }

        private static char breakOf(char operator) {
            return operator == '?' ? '&' : startsWithItself(operator) ? operator : ',';
        }

        private void putVariable(ByteRow out, int variable, Parameter parameter, char operator) {
            boolean spread = path.isSpread(variable);
            boolean named = operator == ';' || operator == '?' || operator == '&';
            int manner = operator == '+' ? Encoder.LOOSE : Encoder.PLAIN;
            int characters = path.charactersFor(variable);
            for (int i = 0; i < parameter.count; i++) {
                Item item = parameter.items[i];
                if (i > 0) {
                    out.put(spread ? breakOf(operator) : ',');
                }
                if (named && (i == 0 || spread)) {
                    boolean alone = spread || parameter.count == 1;
                    out.put(parameter.letter);
                    if (operator != ';' || !alone || item.size > 0) {
                        out.put('=');
                    }
                }
                Encoder.putEncoded(out, item, item.endOf(characters), manner);
            }
        }

        private void putQuery(ByteRow out) {
            for (int k = 0; k < declaration.count; k++) {
                Parameter parameter = declaration.parameters[k];
                if (parameter.kind == Parameter.QUERY) {
                    putQueryItems(out, parameter);
                }
            }
        }

        private static void putQueryItems(ByteRow out, Parameter parameter) {
            for (int i = 0; i < parameter.count; i++) {
                Item item = parameter.items[i];
                // What stands before the target has no question mark.
                out.put(out.has('?') ? '&' : '?');
                out.put(parameter.letter);
                out.put('=');
                Encoder.putEncoded(out, item, item.size, Encoder.PLAIN);
            }
        }

        private void putHeaders(ByteRow out) {
            for (int k = 0; k < declaration.count; k++) {
                Parameter parameter = declaration.parameters[k];
                if (parameter.kind == Parameter.HEADER && parameter.count > 0) {
                    putHeader(out, parameter);
                }
            }
        }

        private static void putHeader(ByteRow out, Parameter parameter) {
            out.putText("x-");
            out.put(parameter.letter);
            out.putText(": ");
            for (int i = 0; i < parameter.count; i++) {
                if (i > 0) {
                    out.putText(", ");
                }
                putAscii(out, parameter.items[i]);
            }
            out.putText("\r\n");
        }

        /** Only for an item that fits a header: then each of its chars is one byte. */
        private static void putAscii(ByteRow out, Item item) {
            for (int i = 0; i < item.size; i++) {
                out.put(item.at(i));
            }
        }

        private void putBodyOrForm(ByteRow out) {
            int fieldItems = 0;
            for (int k = 0; k < declaration.count; k++) {
                Parameter parameter = declaration.parameters[k];
                if (parameter.kind == Parameter.BODY && parameter.count > 0) {
                    Encoder.putUtf8(out, parameter.items[0]);
                } else if (parameter.kind == Parameter.FIELD) {
                    putFormItems(out, parameter, fieldItems);
                    fieldItems += parameter.count;
                }
            }
        }

        private static void putFormItems(ByteRow out, Parameter parameter, int itemsBefore) {
            for (int i = 0; i < parameter.count; i++) {
                Item item = parameter.items[i];
                if (itemsBefore + i > 0) {
                    out.put('&');
                }
                out.put(parameter.letter);
                out.put('=');
                Encoder.putEncoded(out, item, item.size, Encoder.FORM);
            }
        }
    }

    private static final class Line {
        static final int GOES_ON = 0;
        static final int ENDED = 1;
        static final int WRONG = 2;
        private static final int MOST_CHARS = 60;
        private static final int MOST_NUMBER_DIGITS = 4;
        private static final int MOST_SIZE_DIGITS = 3;

        private final char[] text = new char[MOST_CHARS];
        private int size = 0;
        private boolean returned = false;

        void clear() {
            size = 0;
            returned = false;
        }

        int add(int b) {
            if (returned) {
                return b == 10 ? ENDED : WRONG;
            }
            if (b == 13) {
                returned = true;
                return GOES_ON;
            }
            if (size >= MOST_CHARS || b != 9 && (b < 32 || b > 126)) {
                return WRONG;
            }
            text[size] = (char) b;
            size++;
            return GOES_ON;
        }

        /** The character at i; 0, which no line has, when there is none. */
        char at(int i) {
            return i >= 0 && i < size ? text[i] : 0;
        }

        boolean startsWith(String start) {
            for (int i = 0; i < start.length(); i++) {
                if (at(i) != start.charAt(i)) {
                    return false;
                }
            }
            return true;
        }

        /** Whether from .. to is the word, which is given in small letters. */
        boolean isWord(int from, int to, String word) {
            if (to - from != word.length()) {
                return false;
            }
            for (int i = 0; i < word.length(); i++) {
                if (Chars.toSmall(at(from + i)) != word.charAt(i)) {
                    return false;
                }
            }
            return true;
        }

        /** The index of the colon behind a field's name; -1 when the line has no right name. */
        int colonBehindName() {
            for (int i = 0; i < size; i++) {
                if (text[i] == ':') {
                    return i > 0 ? i : -1;
                }
                if (!Chars.isLetterOrDigit(text[i]) && text[i] != '-') {
                    return -1;
                }
            }
            return -1;
        }

        int skipBlanks(int from) {
            int i = from;
            while (i < size && Chars.isBlank(at(i))) {
                i++;
            }
            return i;
        }

        /** The end of what begins at from, without the blanks at the line's end. */
        int endWithoutBlanks(int from) {
            int end = size;
            while (end > from && Chars.isBlank(at(end - 1))) {
                end--;
            }
            return end;
        }

        /** The number that one to four digits from .. to tell; -1 when other things stand there. */
        int number(int from, int to) {
            if (to <= from || to - from > MOST_NUMBER_DIGITS) {
                return -1;
            }
            int number = 0;
            for (int i = from; i < to; i++) {
                if (!Chars.isDigit(at(i))) {
                    return -1;
                }
                number = number * 10 + at(i) - '0';
            }
            return number;
        }

        /** The size that the line of a chunk tells; -1 when it is no such line. */
        int chunkSize() {
            int chunkSize = 0;
            int digits = 0;
            while (digits < MOST_SIZE_DIGITS && Chars.hexValue(at(digits)) >= 0) {
                chunkSize = chunkSize * 16 + Chars.hexValue(at(digits));
                digits++;
            }
            boolean ended = digits == size || at(digits) == ';';
            return digits > 0 && ended ? chunkSize : -1;
        }
    }

    private static final class Head {
        static final int NONE = -1;
        private static final int MOST_FIELD_LINES = 8;
        private static final String CONTENT_LENGTH = "content-length";
        private static final String TRANSFER_ENCODING = "transfer-encoding";

        private int statusCode;
        private int fieldLines;
        private int trailingLines;
        private int contentLength;
        private boolean chunked;

        Head() {
            clear();
        }

        void clear() {
            statusCode = 0;
            fieldLines = 0;
            trailingLines = 0;
            contentLength = NONE;
            chunked = false;
        }

        boolean isForgotten() {
            return statusCode >= 100 && statusCode <= 199 && statusCode != 101;
        }

        boolean hasNoContent(int verb) {
            return verb == Declaration.HEAD || statusCode == 204 || statusCode == 304;
        }

        /** Reads the first line; false when it is not as it must be. */
        boolean readFirst(Line line) {
            int code = line.number(9, 12);
            if (!line.startsWith("HTTP/1.1 ") || line.at(12) != ' ' || code < 100 || code > 599) {
                return false;
            }
            statusCode = code;
            return true;
        }

        /** Reads a field line; false when it is not as it must be. */
        boolean readField(Line line) {
            int colon = line.colonBehindName();
            if (colon < 0 || fieldLines >= MOST_FIELD_LINES) {
                return false;
            }
            int from = line.skipBlanks(colon + 1);
            int to = line.endWithoutBlanks(from);
            boolean right = true;
            if (line.isWord(0, colon, CONTENT_LENGTH)) {
                right = setContentLength(line.number(from, to));
            } else if (line.isWord(0, colon, TRANSFER_ENCODING)) {
                right = line.isWord(from, to, "chunked") && setChunked();
            }
            if (right) {
                fieldLines++;
            }
            return right;
        }

        /** Reads a field line behind the last chunk; false when it is not as it must be. */
        boolean readTrailing(Line line) {
            int colon = line.colonBehindName();
            trailingLines++;
            return colon >= 0 && trailingLines <= MOST_FIELD_LINES
                && !line.isWord(0, colon, CONTENT_LENGTH)
                && !line.isWord(0, colon, TRANSFER_ENCODING);
        }

        private boolean setContentLength(int number) {
            if (number < 0 || chunked || contentLength != NONE && contentLength != number) {
                return false;
            }
            contentLength = number;
            return true;
        }

        private boolean setChunked() {
            if (chunked || contentLength != NONE) {
                return false;
            }
            chunked = true;
            return true;
        }
    }

    private static final class Reader {
        private static final int HEAD = 0;
        private static final int CONTENT = 1;
        private static final int COMPLETE = 2;
        private static final int BROKEN = 3;

        // What the next byte belongs to.
        private static final int FIRST_LINE = 0;
        private static final int FIELD_LINE = 1;
        private static final int CHUNK_LINE = 2;
        private static final int TRAILING_LINE = 3;
        private static final int COUNTED_BYTES = 4;
        private static final int BYTES_UP_TO_CLOSE = 5;
        private static final int CHUNK_BYTES = 6;
        private static final int CHUNK_RETURN = 7;
        private static final int CHUNK_NEWLINE = 8;

        private final Line line = new Line();
        private final Head head = new Head();
        private final ByteRow body = new ByteRow(MOST_CONTENT_BYTES);
        private int state;
        private int place;
        private int endedStatus;
        private int bytesLeft;

        Reader() {
            restart();
        }

        void restart() {
            line.clear();
            head.clear();
            body.size = 0;
            state = HEAD;
            place = FIRST_LINE;
            endedStatus = 0;
            bytesLeft = 0;
        }

        void end() {
            if (state == CONTENT && place == BYTES_UP_TO_CLOSE) {
                state = COMPLETE;
            } else if (state != COMPLETE) {
                state = BROKEN;
            }
        }

        void take(int b, int verb) {
            if (state == COMPLETE || state == BROKEN) {
                return;
            }
            switch (place) {
                case COUNTED_BYTES:
                case CHUNK_BYTES:
                    takeCounted(b);
                    break;
                case BYTES_UP_TO_CLOSE:
                    takeUncounted(b);
                    break;
                case CHUNK_RETURN:
                    takeDue(b, 13, CHUNK_NEWLINE);
                    break;
                case CHUNK_NEWLINE:
                    takeDue(b, 10, CHUNK_LINE);
                    break;
                default:
                    takeOfLine(b, verb);
                    break;
            }
        }

        private void takeCounted(int b) {
            body.put(b);
            bytesLeft--;
            if (bytesLeft > 0) {
                return;
            }
            if (place == CHUNK_BYTES) {
                place = CHUNK_RETURN;
            } else {
                state = COMPLETE;
            }
        }

        private void takeUncounted(int b) {
            if (body.size >= MOST_CONTENT_BYTES) {
                state = BROKEN;
            } else {
                body.put(b);
            }
        }

        private void takeDue(int b, int due, int nextPlace) {
            if (b == due) {
                place = nextPlace;
            } else {
                state = BROKEN;
            }
        }

        private void takeOfLine(int b, int verb) {
            int answer = line.add(b);
            if (answer == Line.WRONG) {
                state = BROKEN;
            } else if (answer == Line.ENDED) {
                if (!readLine(verb)) {
                    state = BROKEN;
                }
                line.clear();
            }
        }

        /** Reads the line that is complete; false when it breaks the reader. */
        private boolean readLine(int verb) {
            switch (place) {
                case FIRST_LINE:
                    place = FIELD_LINE;
                    return head.readFirst(line);
                case FIELD_LINE:
                    return line.size == 0 ? endHead(verb) : head.readField(line);
                case CHUNK_LINE:
                    return beginChunk(line.chunkSize());
                default:
                    return line.size == 0 ? endContent() : head.readTrailing(line);
            }
        }

        private boolean endHead(int verb) {
            if (head.isForgotten()) {
                head.clear();
                place = FIRST_LINE;
                return true;
            }
            endedStatus = head.statusCode;
            if (endedStatus == 101) {
                return false;
            }
            return head.hasNoContent(verb) ? endContent() : beginContent();
        }

        private boolean beginContent() {
            if (head.contentLength > MOST_CONTENT_BYTES) {
                return false;
            }
            state = head.contentLength == 0 ? COMPLETE : CONTENT;
            if (head.chunked) {
                place = CHUNK_LINE;
            } else if (head.contentLength == Head.NONE) {
                place = BYTES_UP_TO_CLOSE;
            } else {
                place = COUNTED_BYTES;
                bytesLeft = head.contentLength;
            }
            return true;
        }

        private boolean beginChunk(int chunkSize) {
            if (chunkSize < 0 || body.size + chunkSize > MOST_CONTENT_BYTES) {
                return false;
            }
            place = chunkSize == 0 ? TRAILING_LINE : CHUNK_BYTES;
            bytesLeft = chunkSize;
            return true;
        }

        private boolean endContent() {
            state = COMPLETE;
            return true;
        }
    }
}
