/** Rows of calls that many tests make. */
final class Calls {
    static final int GET = 0;
    static final int HEAD = 1;
    static final int POST = 2;
    static final int PUT = 3;
    static final int DELETE = 4;

    static final int TEXT = 0;
    static final int LIST = 1;
    static final int QUERY = 2;
    static final int HEADER = 3;
    static final int FIELD = 4;
    static final int BODY = 5;

    private Calls() {
    }

    /** A new object with this declaration, before any parameter. */
    static TemplateCaller declared(int verb, String template) {
        TemplateCaller x = new TemplateCaller();
        x.declare(verb);
        addTemplate(x, template);
        return x;
    }

    static void addTemplate(TemplateCaller x, String template) {
        for (char c : template.toCharArray()) {
            x.template(c);
        }
    }

    /** Declares a parameter and gives it the items; answers its number. */
    static int add(TemplateCaller x, int kind, char letter, String... items) {
        int k = x.parameter(kind, letter);
        for (String item : items) {
            addItem(x, k, item);
        }
        return k;
    }

    static void addItem(TemplateCaller x, int k, String item) {
        x.item(k);
        for (char c : item.toCharArray()) {
            x.write(k, c);
        }
    }

    /** The request made last, a byte a char. */
    static String sentText(TemplateCaller x) {
        StringBuilder text = new StringBuilder();
        int b = x.sent(0);
        while (b >= 0) {
            text.append((char) b);
            b = x.sent(text.length());
        }
        return text.toString();
    }

    /** The target of the request that is made now, or the answer of send() when none can be made. */
    static String target(TemplateCaller x) {
        int answer = x.send();
        return answer < 0 ? String.valueOf(answer) : sentText(x).split(" ")[1];
    }

    /** Feeds the chars as bytes; answers the state, a digit a byte, without repeats. */
    static String states(TemplateCaller x, String bytes) {
        StringBuilder states = new StringBuilder();
        for (char c : bytes.toCharArray()) {
            String state = String.valueOf(x.feed(c));
            if (states.length() == 0 || !states.toString().endsWith(state)) {
                states.append(state);
            }
        }
        return states.toString();
    }

    /** Feeds the chars as bytes; answers the last state. */
    static int fed(TemplateCaller x, String bytes) {
        for (char c : bytes.toCharArray()) {
            x.feed(c);
        }
        return x.state();
    }

    static String contentText(TemplateCaller x) {
        StringBuilder text = new StringBuilder();
        int length = x.length();
        for (int i = 0; i < length; i++) {
            text.append((char) x.content(i));
        }
        return text.toString();
    }
}
