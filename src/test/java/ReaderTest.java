/** Promises 11 to 18: feed, close, reset, state, status, fields, length, content. */
public final class ReaderTest {
    private static final Answers ANSWERS = new Answers("ReaderTest");
    private static final String OK = "HTTP/1.1 200 ok\r\n";
    private static final String CHUNKED = OK + "transfer-encoding: chunked\r\n\r\n";

    public static void main(String[] args) {
        badBytes();
        lines();
        firstLines();
        fieldLines();
        contentLengths();
        transferEncodings();
        forgottenHeads();
        headsWithoutContent();
        countedContent();
        contentUpToClose();
        chunks();
        trailingLines();
        close();
        reset();
        content();
        ANSWERS.finish();
    }

    private static void due(String what, Object got, Object want) {
        ANSWERS.due(what, got, want);
    }

    private static TemplateCaller after(String bytes) {
        TemplateCaller x = new TemplateCaller();
        Calls.fed(x, bytes);
        return x;
    }

    /** Of a new reader: the state before the last byte and behind it. */
    private static String lastStep(String bytes) {
        TemplateCaller x = after(bytes.substring(0, bytes.length() - 1));
        return x.state() + " " + x.feed(bytes.charAt(bytes.length() - 1));
    }

    private static void badBytes() {
        for (int b : new int[] {-1, 256, Integer.MIN_VALUE, Integer.MAX_VALUE}) {
            TemplateCaller x = after(OK);
            due("feed(" + b + ") in a head", x.feed(b), TemplateCaller.BAD);
            due("the head goes on", Calls.fed(x, "content-length: 2\r\n\r\na"), 1);
            due("feed(" + b + ") in a content", x.feed(b), TemplateCaller.BAD);
            due("length", x.length(), 1);
            due("the content goes on", x.feed(255), 2);
            due("feed(" + b + ") when complete", x.feed(b), TemplateCaller.BAD);
            due("state", x.state(), 2);
            x = after("\n");
            due("feed(" + b + ") when broken", x.feed(b), TemplateCaller.BAD);
            due("state", x.state(), 3);
        }
    }

    private static void lines() {
        for (int b = 0; b < 256; b++) {
            boolean fits = b >= 32 && b <= 126 || b == 9 || b == 13;
            due("byte " + b + " in a first line", after("HTTP/1.1 200 ").feed(b), fits ? 0 : 3);
            due("byte " + b + " first of all", new TemplateCaller().feed(b), fits ? 0 : 3);
            due("byte " + b + " in a field line", after(OK + "a:").feed(b), fits ? 0 : 3);
            due("byte " + b + " in a line of a chunk", after(CHUNKED).feed(b), fits ? 1 : 3);
            due("byte " + b + " behind the last chunk", after(CHUNKED + "0\r\n").feed(b), fits ? 1 : 3);
            due("byte " + b + " behind a 13", after("HTTP/1.1 200 \r").feed(b), b == 10 ? 0 : 3);
            due("byte " + b + " behind a 13 in chunks", after(CHUNKED + "1\r").feed(b), b == 10 ? 1 : 3);
        }
        String sixty = "HTTP/1.1 200 " + "x".repeat(47);
        due("a line of 60 bytes", lastStep(sixty + "\r\n"), "0 0");
        due("a line of 61 bytes", lastStep(sixty + "x"), "0 3");
        due("a field line of 60 bytes", lastStep(OK + "a:" + " ".repeat(58) + "\r\n"), "0 0");
        due("a field line of 61 bytes", lastStep(OK + "a:" + " ".repeat(59)), "0 3");
        due("a line of a chunk of 60 bytes", lastStep(CHUNKED + "1;" + "\t".repeat(58) + "\r\n"), "1 1");
        due("a line of a chunk of 61 bytes", lastStep(CHUNKED + "1;" + "\t".repeat(59)), "1 3");
        due("wrong lines break when they are complete", Calls.states(new TemplateCaller(), "what is this\r\n"), "03");
    }

    private static void firstLines() {
        String[] right = {"HTTP/1.1 200 ", "HTTP/1.1 200 ok", "HTTP/1.1 599  ", "HTTP/1.1 300 \t~", "HTTP/1.1 100 x"};
        for (String line : right) {
            due("first line <" + line + ">", lastStep(line + "\r\n"), "0 0");
        }
        String[] wrong = {"", " ", "HTTP/1.1", "HTTP/1.1 ", "HTTP/1.1 200", "HTTP/1.1 200ok", "HTTP/1.1 20 ok",
            "HTTP/1.1 2000 ok", "HTTP/1.1 099 ok", "HTTP/1.1 000 ok", "HTTP/1.1 600 ok", "HTTP/1.1 999 ok",
            "HTTP/1.0 200 ok", "HTTP/2.1 200 ok", "http/1.1 200 ok", "HTTP/1.1  200 ok", " HTTP/1.1 200 ok",
            "HTTP/1.1\t200 ok", "HTTP/1.1 200\tok", "HTTP/1.1 2x0 ok", "HTTP/1.1 20: ok", "HTTP/1.1 +20 ok", "a: b"};
        for (String line : wrong) {
            due("first line <" + line + ">", lastStep(line + "\r\n"), "0 3");
        }
        TemplateCaller x = after("HTTP/1.1 418 \r\n");
        due("status before the head's end", x.status(), 0);
        Calls.fed(x, "\r\n");
        due("status", x.status(), 418);
        Calls.fed(x, "a".repeat(121));
        due("broken", x.state(), 3);
        due("status when broken later", x.status(), 418);
        x = after(OK + "!\r\n");
        due("status when broken in the head", x.status(), 0);
    }

    private static void fieldLines() {
        String[] right = {"a:", "A:b", "z-9: x", "-:", "0::", "a: :", "Content-Lengt: x", "content-length-: x",
            "transfer-encodin: x", "a:\t\t"};
        for (String line : right) {
            TemplateCaller x = after(OK + line + "\r\n");
            due("field line <" + line + ">", x.state(), 0);
            due("fields of <" + line + ">", x.fields(), 1);
        }
        String[] wrong = {"a", ":", ": b", " a: b", "a : b", "a_b: c", "a\t:", "a.b: c", "\t", " ", "a b: c", "@:",
            "[:", "`:", "{:", "/:", "a;b:"};
        for (String line : wrong) {
            due("field line <" + line + ">", lastStep(OK + "a:\r\n" + line + "\r\n"), "0 3");
            due("fields with <" + line + ">", after(OK + "a:\r\n" + line + "\r\n").fields(), 1);
        }
        TemplateCaller x = after(OK);
        for (int n = 1; n <= 8; n++) {
            due("field line " + n, Calls.fed(x, "a: b\r\n"), 0);
            due("fields", x.fields(), n);
        }
        due("eight field lines and an empty one", Calls.fed(x, "\r\n"), 1);
        due("fields when the head has ended", x.fields(), 8);
        due("a ninth field line", lastStep(OK + "a: b\r\n".repeat(9)), "0 3");
        due("fields then", after(OK + "a: b\r\n".repeat(9)).fields(), 8);
        due("a field line is counted when it is complete", after(OK + "a: b\r").fields(), 0);
    }

    private static void contentLengths() {
        String[] right = {"5", "05", "0005", " 5", "\t 5 \t", "120"};
        for (String value : right) {
            due("content-length <" + value + ">", lastStep(OK + "content-length:" + value + "\r\n\r\n"), "0 1");
        }
        String[] wrong = {"", " ", "00005", "12345", "+5", "-5", "5,5", "5 5", "5x", "x", "0x5", "5.", "/", ":"};
        for (String value : wrong) {
            due("content-length <" + value + ">", lastStep(OK + "content-length:" + value + "\r\n"), "0 3");
        }
        for (String value : new String[] {"121", "0121", "200", "9999"}) {
            TemplateCaller x = after(OK + "content-length:" + value + "\r\n");
            due("content-length " + value, x.state(), 0);
            due("the head's end with " + value, Calls.fed(x, "\r\n"), 3);
            due("status then", x.status(), 200);
            due("fields then", x.fields(), 1);
        }
        for (String value : new String[] {"0", "00", "0000"}) {
            TemplateCaller x = after(OK + "content-length:" + value + "\r\n\r\n");
            due("content-length " + value, x.state(), 2);
            due("status then", x.status(), 200);
        }
        due("any case", lastStep(OK + "CONTENT-lENGTH: 0\r\n\r\n"), "0 2");
        due("the same number again", lastStep(OK + "content-length: 3\r\nContent-Length:03\r\n"), "0 0");
        due("another number", lastStep(OK + "content-length: 3\r\ncontent-length: 4\r\n"), "0 3");
        due("another number, behind two", lastStep(OK + "content-length: 0\r\n".repeat(2) + "content-length: 1\r\n"),
            "0 3");
        due("fields then", after(OK + "content-length: 3\r\ncontent-length: 4\r\n").fields(), 1);
    }

    private static void transferEncodings() {
        for (String value : new String[] {"chunked", " Chunked\t", "CHUNKED"}) {
            due("transfer-encoding <" + value + ">", lastStep(OK + "Transfer-ENCODING:" + value + "\r\n\r\n"), "0 1");
        }
        for (String value : new String[] {"", "chunke", "chunkedd", "gzip", "chunked, chunked", "chunked;a", "\"chunked\""}) {
            due("transfer-encoding <" + value + ">", lastStep(OK + "transfer-encoding: " + value + "\r\n"), "0 3");
        }
        String coding = "transfer-encoding: chunked\r\n";
        String sizing = "content-length: 5\r\n";
        due("a second one", lastStep(OK + coding + coding), "0 3");
        due("content-length behind it", lastStep(OK + coding + sizing), "0 3");
        due("content-length before it", lastStep(OK + sizing + coding), "0 3");
        due("content-length 0 before it", lastStep(OK + "content-length: 0\r\n" + coding), "0 3");
        due("fields then", after(OK + "a:\r\n" + sizing + coding).fields(), 2);
    }

    private static void forgottenHeads() {
        for (int status : new int[] {100, 102, 150, 199}) {
            TemplateCaller x = after("HTTP/1.1 " + status + " \r\ncontent-length: 9\r\na:\r\n");
            due("fields before the end of " + status, x.fields(), 2);
            due("the end of " + status, Calls.fed(x, "\r\n"), 0);
            due("status", x.status(), 0);
            due("fields", x.fields(), 0);
            due("an empty line is no first one", after("HTTP/1.1 100 \r\n\r\n\r\n").state(), 3);
            due("the next head", Calls.fed(x, OK), 0);
            due("status in the next head", x.status(), 0);
            due("its length is not that of the forgotten one", Calls.fed(x, "content-length: 1\r\n\r\n"), 1);
            due("status of the next head", x.status(), 200);
            due("fields of the next head", x.fields(), 1);
        }
        due("two forgotten heads", lastStep("HTTP/1.1 100 \r\n\r\nHTTP/1.1 103 \r\n\r\nHTTP/1.1 204 \r\n\r\n"), "0 2");
        due("a forgotten transfer-encoding",
            lastStep("HTTP/1.1 100 \r\ntransfer-encoding: chunked\r\n\r\n" + OK + "content-length: 0\r\n\r\n"), "0 2");
        String eight = "a:\r\n".repeat(8);
        due("eight lines in each", lastStep("HTTP/1.1 100 \r\n" + eight + "\r\n" + OK + eight + "\r\n"), "0 1");
        TemplateCaller x = after("HTTP/1.1 101 \r\na:\r\n");
        due("101 before its end", x.state(), 0);
        due("101", Calls.fed(x, "\r\n"), 3);
        due("status of 101", x.status(), 101);
        due("fields of 101", x.fields(), 1);
        x = Calls.declared(Calls.HEAD, "");
        due("100 with HEAD is forgotten", Calls.fed(x, "HTTP/1.1 100 \r\n\r\n"), 0);
        due("101 with HEAD breaks", Calls.fed(x, "HTTP/1.1 101 \r\n\r\n"), 3);
        x = after("HTTP/1.1 100 \r\n\r\nnonsense\r\n");
        due("broken in the second head", x.state() + " " + x.status() + " " + x.fields(), "3 0 0");
    }

    private static void headsWithoutContent() {
        for (int status : new int[] {200, 203, 205, 303, 305, 404, 500}) {
            due("status " + status, lastStep("HTTP/1.1 " + status + " \r\n\r\n"), "0 1");
        }
        for (int status : new int[] {204, 304}) {
            String head = "HTTP/1.1 " + status + " \r\n";
            due("status " + status, lastStep(head + "\r\n"), "0 2");
            due("with a length", lastStep(head + "content-length: 9999\r\n\r\n"), "0 2");
            due("with chunks", lastStep(head + "transfer-encoding: chunked\r\n\r\n"), "0 2");
            due("its status", after(head + "\r\n").status(), status);
            due("its length", after(head + "content-length: 9\r\n\r\nabc").length(), 0);
        }
        for (int verb = 0; verb < 5; verb++) {
            TemplateCaller x = Calls.declared(verb, "");
            int want = verb == Calls.HEAD ? 2 : 1;
            due("verb " + verb, Calls.fed(x, OK + "\r\n"), want);
            x = new TemplateCaller();
            Calls.fed(x, OK + "content-length: 4\r\n\r");
            x.declare(verb);
            due("verb " + verb + " just before the head's end", x.feed(10), want);
            x.declare(Calls.HEAD);
            due("another verb later", x.feed('a'), want);
            due("another verb later, the length", x.length(), verb == Calls.HEAD ? 0 : 1);
        }
        TemplateCaller x = Calls.declared(Calls.HEAD, "");
        Calls.fed(x, OK);
        x.declare(5);
        due("a refused declare keeps the verb", Calls.fed(x, "content-length: 121\r\n\r\n"), 2);
    }

    private static void countedContent() {
        TemplateCaller x = after(OK + "content-length: 4\r\n\r\n");
        due("any bytes", Calls.states(x, "\0\r\n\u00ff"), "12");
        due("length", x.length(), 4);
        due("content", Calls.contentText(x), "\0\r\n\u00ff");
        due("nothing changes when complete", x.feed('x'), 2);
        due("length then", x.length(), 4);
        x = after(OK + "content-length: 120\r\n\r\n" + "a".repeat(119));
        due("119 of 120 bytes", x.state(), 1);
        due("120 of 120 bytes", x.feed('b'), 2);
        due("length", x.length(), 120);
        due("the last byte", x.content(119), (int) 'b');
        due("no byte behind it", x.content(120), -1);
    }

    private static void contentUpToClose() {
        TemplateCaller x = after(OK + "\r\n");
        due("no bytes yet", x.length(), 0);
        due("120 bytes", Calls.states(x, "\r\n" + "\u0080".repeat(118)), "1");
        due("length", x.length(), 120);
        due("a 121st", x.feed('x'), 3);
        due("length then", x.length(), 120);
        due("close then", x.close(), 3);
        x = after(OK + "a: b\r\n\r\nhello");
        due("close", x.close(), 2);
        due("content", Calls.contentText(x), "hello");
        due("feed behind the close", x.feed('x'), 2);
        due("length behind the close", x.length(), 5);
        x = after(OK + "\r\n" + "y".repeat(120));
        due("close at 120", x.close(), 2);
        due("close without a byte", after(OK + "\r\n").close(), 2);
    }

    private static void chunks() {
        TemplateCaller x = after(CHUNKED);
        due("chunks", Calls.states(x, "3\r\nabc\r\n1;x=y\r\n\n\r\n00A\r\n0123456789\r\n000;\r\n\r\n"), "12");
        due("content", Calls.contentText(x), "abc\n0123456789");
        due("fields", x.fields(), 1);
        due("nothing behind", x.feed('x'), 2);
        for (String line : new String[] {"1", "f", "F", "a", "9", "01", "001", "78", "078", "1;", "1;;", "1; \t", "1;\t~"}) {
            due("line of a chunk <" + line + ">", lastStep(CHUNKED + line + "\r\n"), "1 1");
        }
        for (String line : new String[] {"", " ", ";", "g", "G", "0001", "1 ", " 1", "1 ;", "1:", "1g", "-1", "0x1", "1\t",
            "79", "079", "FFF", "fff;", "0000", "@", "/", "`", ":"}) {
            due("line of a chunk <" + line + ">", lastStep(CHUNKED + line + "\r\n"), "1 3");
        }
        for (int b = 0; b < 256; b++) {
            due("byte " + b + " for the 13", after(CHUNKED + "1\r\na").feed(b), b == 13 ? 1 : 3);
            due("byte " + b + " for the 10", after(CHUNKED + "1\r\na\r").feed(b), b == 10 ? 1 : 3);
        }
        String sixty = "3c\r\n" + "z".repeat(60) + "\r\n";
        due("120 bytes in two chunks", lastStep(CHUNKED + sixty + sixty + "0\r\n\r\n"), "1 2");
        due("121 bytes in three chunks", lastStep(CHUNKED + sixty + sixty + "1\r\n"), "1 3");
        due("121 bytes in two chunks", lastStep(CHUNKED + sixty + "3D\r\n"), "1 3");
        x = after(CHUNKED + "5\r\nab");
        due("length in a chunk", x.length(), 2);
        x = after(CHUNKED + "2\r\nabx");
        due("broken behind a chunk", x.state() + " " + x.status() + " " + Calls.contentText(x), "3 200 ab");
        due("the head's end is no chunk", after(CHUNKED).length(), 0);
    }

    private static void trailingLines() {
        String last = CHUNKED + "0\r\n";
        due("none", lastStep(last + "\r\n"), "1 2");
        due("one", lastStep(last + "a: b\r\n"), "1 1");
        due("eight", lastStep(last + "a: b\r\n".repeat(8) + "\r\n"), "1 2");
        due("nine", lastStep(last + "a: b\r\n".repeat(9)), "1 3");
        due("those do not count", after(last + "a: b\r\n".repeat(3) + "\r\n").fields(), 1);
        due("eight in the head and eight behind",
            lastStep(OK + "transfer-encoding: chunked\r\n" + "a:\r\n".repeat(7) + "\r\n0\r\n" + "a:\r\n".repeat(8) + "\r\n"),
            "1 2");
        for (String line : new String[] {"content-length: 0", "Content-Length:", "transfer-encoding: chunked",
            "TRANSFER-encoding: x", "a", ":", " a:", "a :"}) {
            due("<" + line + "> behind the last chunk", lastStep(last + line + "\r\n"), "1 3");
        }
        due("a chunk is none behind the last one", lastStep(last + "1\r\n"), "1 3");
    }

    private static void close() {
        String[] broken = {"", "H", "HTTP/1.1 200 \r", OK, OK + "a:\r\n", OK + "\r", "HTTP/1.1 100 \r\n\r\n",
            OK + "content-length: 2\r\n\r\n", OK + "content-length: 2\r\n\r\na", CHUNKED, CHUNKED + "1\r\n",
            CHUNKED + "1\r\na", CHUNKED + "1\r\na\r\n", CHUNKED + "0\r\n", CHUNKED + "0\r\na:\r\n", "\n"};
        for (String bytes : broken) {
            TemplateCaller x = after(bytes);
            due("close() behind " + bytes, x.close(), 3);
            due("state() behind " + bytes, x.state(), 3);
            due("feed() behind a close", x.feed('x'), 3);
        }
        String[] complete = {"HTTP/1.1 204 \r\n\r\n", OK + "content-length: 1\r\n\r\na", CHUNKED + "0\r\n\r\n",
            OK + "\r\n", OK + "\r\nabc"};
        for (String bytes : complete) {
            TemplateCaller x = after(bytes);
            due("close() behind " + bytes, x.close(), 2);
            due("close() again", x.close(), 2);
            due("state() behind " + bytes, x.state(), 2);
        }
        TemplateCaller x = after(OK + "a:\r\ncontent-length: 3\r\n\r\nxy");
        x.close();
        due("status stays", x.status(), 200);
        due("fields stay", x.fields(), 2);
        due("the content stays", Calls.contentText(x), "xy");
    }

    private static void reset() {
        String[] before = {"", "HTTP", "HTTP/1.1 200 \r", OK + "content-length: 3\r\n", OK + "content-length: 3\r\n\r\nab",
            CHUNKED + "5\r\nab", CHUNKED + "0\r\n" + "a:\r\n".repeat(8), OK + "\r\nabc", OK + "a:\r\n".repeat(8) + "\r\n",
            "\n", "HTTP/1.1 204 \r\n\r\n", "HTTP/1.1 101 \r\n\r\n"};
        for (String bytes : before) {
            TemplateCaller x = after(bytes);
            x.reset();
            due("state() after reset", x.state(), 0);
            due("status() after reset", x.status(), 0);
            due("fields() after reset", x.fields(), 0);
            due("length() after reset", x.length(), 0);
            due("content(0) after reset", x.content(0), -1);
            due("a response after reset", Calls.states(x, CHUNKED + "1\r\nz\r\n0\r\nb:\r\n\r\n"), "012");
            due("content after reset", Calls.contentText(x), "z");
            due("fields after reset", x.fields(), 1);
        }
        TemplateCaller x = Calls.declared(Calls.HEAD, "/");
        x.send();
        x.reset();
        due("reset keeps the declaration", Calls.fed(x, OK + "\r\n"), 2);
        due("reset keeps the template", x.check(), 0);
    }

    private static void content() {
        TemplateCaller x = after(OK + "\r\n\u00ff\0\u0080");
        due("content(0)", x.content(0), 255);
        due("content(1)", x.content(1), 0);
        due("content(2)", x.content(2), 128);
        for (int i : new int[] {3, 119, 120, -1, Integer.MIN_VALUE, Integer.MAX_VALUE}) {
            due("content(" + i + ")", x.content(i), -1);
        }
        due("length()", x.length(), 3);
        due("state()", x.state(), 1);
    }
}
