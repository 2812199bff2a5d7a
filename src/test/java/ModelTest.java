import java.util.ArrayList;
import java.util.Random;

/**
 * Promises 1 to 18 on many mixed runs: each answer is compared with that of the second reading in
 * RequestModel and ResponseModel. The runs are the same each time.
 */
public final class ModelTest {
    private static final Answers ANSWERS = new Answers("ModelTest");
    private static final int RUNS = 6000;
    private static final int MOST_CALLS = 512;
    private static final String ITEM_CHARS = "aZ09-._~ %%%%41fF/:?@!$&'()*+,;=#[]\"<>\\^`{|}\t\n\u007f\u0080\u00e9"
        + "\u07ff\u0800\u20ac\ud7ff\ue000\uffff";
    private static final String[] PIECES = {"/", "x", "?", "=", "&", "{a}", "{+a}", "{b}", "{.a,b}", "{/a,b*}", "{;a}",
        "{;b*}", "{?a,b}", "{?b*}", "{&a*,b}", "{a:1}", "{+a:3}", "{;a:2,b}", "{b:1}", "{+b,a}", "{c}", "{", "}", "{a,",
        "{a,a,a,a,a,a,a,a,b,b,b,b,b,b,b}", "!"};
    private static final String[] FIRST_LINES = {"HTTP/1.1 200 ok", "HTTP/1.1 200 ok", "HTTP/1.1 404 ", "HTTP/1.1 100 c",
        "HTTP/1.1 101 s", "HTTP/1.1 204 n", "HTTP/1.1 304 n", "HTTP/1.1 600 x", "HTTP/1.1 200"};
    private static final String[] FIELD_LINES = {"a: b", "X-1:", "content-length: 7", "Content-Length:007 ",
        "content-length: 0", "content-length: 200", "content-length: x", "content-length: 8",
        "transfer-encoding: chunked", "Transfer-Encoding:\tCHUNKED", "transfer-encoding: gzip", "b : c", ": d",
        "c:" + " ".repeat(58), "c:" + " ".repeat(59)};
    private static final String[] CHUNKS = {"1\r\na", "3;x\r\nabc", "00a\r\n0123456789", "3C\r\n" + "z".repeat(60), "g\r\n",
        "0001\r\na", "5\r\nab\r\nc"};

    private final Random random;
    private final int run;
    private final TemplateCaller x = new TemplateCaller();
    private final RequestModel requests = new RequestModel();
    private final ResponseModel responses = new ResponseModel();
    private int calls = 0;

    private ModelTest(int run) {
        this.run = run;
        this.random = new Random(run);
    }

    public static void main(String[] args) {
        for (int run = 0; run < RUNS; run++) {
            new ModelTest(run).go();
        }
        ANSWERS.finish();
    }

    private void due(String call, Object got, Object want) {
        calls++;
        ANSWERS.due("run " + run + ", call " + calls + ": " + call, got, want);
    }

    /** Whether there is still room for the calls of one step; beyond the last call, answers are free. */
    private boolean goesOn() {
        return calls < MOST_CALLS - 12;
    }

    private int below(int bound) {
        return random.nextInt(bound);
    }

    private boolean once(int in) {
        return below(in) == 0;
    }

    private void go() {
        while (goesOn()) {
            switch (below(3)) {
                case 0 -> declareAndSend();
                case 1 -> respond();
                default -> callAnything();
            }
        }
    }

    private void declareAndSend() {
        declare(once(9) ? below(7) - 1 : below(5));
        addTemplate(once(20) ? "x" : "/");
        for (int n = below(4); n > 0; n--) {
            addTemplate(PIECES[below(PIECES.length - (once(4) ? 0 : 8))]);
        }
        if (!once(6)) {
            parameter(0, 'a');
            parameter(1, 'b');
        }
        for (int n = below(5); n > 0; n--) {
            parameter(once(3) ? below(6) : 2 + below(3), (char) ('a' + below(4)));
        }
        for (int n = below(9); n > 0; n--) {
            addItem(below(6));
        }
        send();
        for (int n = 0; n < 3; n++) {
            addItem(below(6));
            empty(n);
            send();
        }
    }

    private void callAnything() {
        for (int n = below(30); n > 0; n--) {
            switch (below(7)) {
                case 0 -> declare(below(7) - 1);
                case 1 -> addTemplate(String.valueOf((char) (once(4) ? below(200) : 33 + below(94))));
                case 2 -> parameter(below(8) - 1, (char) ('a' + below(28) - 1));
                case 3 -> addItem(below(8) - 1);
                case 4 -> empty(below(8) - 1);
                case 5 -> send();
                default -> feed(below(258) - 1);
            }
        }
    }

    private void declare(int verb) {
        if (!goesOn()) {
            return;
        }
        boolean right = verb >= 0 && verb <= 4;
        due("declare(" + verb + ")", x.declare(verb), right);
        if (right) {
            requests.verb = verb;
            requests.template.setLength(0);
            requests.parameters.clear();
        }
    }

    private void addTemplate(String text) {
        for (int i = 0; i < text.length() && goesOn(); i++) {
            char c = text.charAt(i);
            boolean right = c >= 33 && c <= 126 && requests.template.length() < 40;
            due("template(" + c + ")", x.template(c), right);
            if (right) {
                requests.template.append(c);
            }
        }
    }

    private void parameter(int kind, char letter) {
        if (!goesOn()) {
            return;
        }
        int want = requests.parameters.size();
        if (kind < 0 || kind > 5 || letter < 'a' || letter > 'z') {
            want = TemplateCaller.BAD;
        } else if (want == 6) {
            want = TemplateCaller.FULL;
        } else {
            requests.parameters.add(new RequestModel.Parameter(kind, letter, new ArrayList<>()));
        }
        due("parameter(" + kind + ", " + letter + ")", x.parameter(kind, letter), want);
    }

    private void addItem(int k) {
        if (!goesOn()) {
            return;
        }
        due("item(" + k + ")", x.item(k), itemModel(k));
        String chars = itemChars(k);
        for (int i = 0; i < chars.length() && goesOn(); i++) {
            char c = chars.charAt(i);
            due("write(" + k + ", " + (int) c + ")", x.write(k, c), writeModel(k, c));
        }
    }

    private String itemChars(int k) {
        StringBuilder chars = new StringBuilder();
        boolean plain = k >= 0 && k < requests.parameters.size() && requests.parameters.get(k).kind() == 3 && !once(4);
        for (int n = once(3) ? 8 + below(2) : below(5); n > 0; n--) {
            if (plain) {
                chars.append((char) (33 + below(94)));
            } else if (once(6)) {
                chars.appendCodePoint(65536 + below(1 << 20));
            } else if (once(80)) {
                chars.append((char) (55296 + below(2048)));
            } else {
                chars.append(ITEM_CHARS.charAt(below(ITEM_CHARS.length())));
            }
        }
        return chars.toString();
    }

    private boolean itemModel(int k) {
        if (k < 0 || k >= requests.parameters.size()) {
            return false;
        }
        RequestModel.Parameter p = requests.parameters.get(k);
        if (p.items().size() == (p.kind() == 0 || p.kind() == 5 ? 1 : 3)) {
            return false;
        }
        return p.items().add(new StringBuilder());
    }

    private boolean writeModel(int k, char c) {
        if (k < 0 || k >= requests.parameters.size() || requests.parameters.get(k).items().isEmpty()) {
            return false;
        }
        RequestModel.Parameter p = requests.parameters.get(k);
        StringBuilder last = p.items().get(p.items().size() - 1);
        return last.length() < 8 && last.append(c) != null;
    }

    private void empty(int k) {
        if (goesOn()) {
            due("empty(" + k + ")", x.empty(k), emptyModel(k));
        }
    }

    private boolean emptyModel(int k) {
        if (k < 0 || k >= requests.parameters.size()) {
            return false;
        }
        requests.parameters.get(k).items().clear();
        return true;
    }

    private void send() {
        if (!goesOn()) {
            return;
        }
        due("check()", x.check(), requests.check());
        due("send()", x.send(), requests.send());
        int step = 1 + requests.request.length() / 60;
        for (int i = below(step); i < requests.request.length() && goesOn(); i += step) {
            due("sent(" + i + ")", x.sent(i), (int) requests.request.charAt(i));
        }
        due("sent behind the end", x.sent(requests.request.length()), -1);
    }

    private void respond() {
        if (!once(5)) {
            calls++;
            x.reset();
            responses.reset();
        }
        byte[] bytes = response().getBytes(java.nio.charset.StandardCharsets.ISO_8859_1);
        for (int i = 0; i < bytes.length && goesOn(); i++) {
            feed(once(400) ? below(258) - 1 : bytes[i] & 255);
            if (once(150)) {
                declare(below(5));
            }
        }
        if (once(2) && goesOn()) {
            responses.close();
            due("close()", x.close(), responses.state);
        }
        compareReader();
    }

    private String response() {
        StringBuilder text = new StringBuilder();
        for (int heads = 1 + below(2); heads > 0; heads--) {
            text.append(FIRST_LINES[heads > 1 ? 3 : below(once(3) ? FIRST_LINES.length : 3)]).append("\r\n");
            boolean many = once(12);
            for (int n = many ? 7 + below(3) : below(4); n > 0; n--) {
                text.append(FIELD_LINES[many || once(2) ? below(2) : below(FIELD_LINES.length)]).append("\r\n");
            }
            text.append("\r\n");
        }
        return text.append(below(3) == 0 ? "x".repeat(below(130)) : chunks()).toString();
    }

    private String chunks() {
        StringBuilder text = new StringBuilder();
        for (int n = below(4); n > 0; n--) {
            text.append(CHUNKS[below(once(4) ? CHUNKS.length : 4)]).append("\r\n");
        }
        text.append(once(3) ? "000;z\r\n" : "0\r\n");
        for (int n = once(6) ? 7 + below(3) : below(2); n > 0; n--) {
            text.append(FIELD_LINES[once(9) ? below(FIELD_LINES.length) : below(2)]).append("\r\n");
        }
        return text.append("\r\nz").toString();
    }

    private void feed(int b) {
        if (!goesOn()) {
            return;
        }
        if (b < 0 || b > 255) {
            due("feed(" + b + ")", x.feed(b), TemplateCaller.BAD);
        } else {
            responses.feed(b, requests.verb);
            due("feed(" + b + ")", x.feed(b), responses.state);
        }
        if (once(20) && goesOn()) {
            compareReader();
        }
    }

    private void compareReader() {
        due("state()", x.state(), responses.state);
        due("status()", x.status(), responses.status);
        due("fields()", x.fields(), responses.fields);
        int length = responses.content.length();
        due("length()", x.length(), length);
        due("content(" + length + ")", x.content(length), -1);
        if (length > 0) {
            int i = below(length);
            due("content(" + i + ")", x.content(i), (int) responses.content.charAt(i));
        }
    }
}
