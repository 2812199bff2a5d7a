/**
 * The boundary cases of the reader, a sentence of the document each: Terms, and promises 11 to 18.
 */
public final class ReaderEdgesTest {
    private static final Answers ANSWERS = new Answers("ReaderEdgesTest");
    private static final String OK = "HTTP/1.1 200 ok\r\n";
    private static final String CHUNKED = OK + "transfer-encoding: chunked\r\n\r\n";
    private static final String LAST = CHUNKED + "0\r\n";
    // Where a line begins, how a line may begin there that is right at any length, and the state.
    private static final String[][] LINES = {{"", "HTTP/1.1 200 ", "0"}, {"HTTP/1.1 100 \r\n\r\n", "HTTP/1.1 200 ", "0"},
        {OK, "a:", "0"}, {CHUNKED, "1;", "1"}, {CHUNKED + "1\r\nx\r\n", "1;", "1"}, {LAST, "a:", "1"}};

    public static void main(String[] args) {
        lineLength();
        lineBytes();
        returnWithoutNewline();
        lookedAtWhenComplete();
        emptyLines();
        firstLine();
        statusDigits();
        fieldLineCount();
        fieldNames();
        fieldValues();
        contentLengthDigits();
        contentLengthAgain();
        transferEncoding();
        codingAndLength();
        status101();
        forgottenHeads();
        headsWithoutContent();
        contentLengthSize();
        contentUpToClose();
        chunkDigits();
        chunkExtension();
        chunkSizes();
        chunkEnd();
        lastChunk();
        trailingCount();
        trailingNames();
        feedRange();
        verbAtTheHeadsEnd();
        nothingChangesAtTheEnd();
        eachPlace();
        resetEverywhere();
        statusStays();
        fieldsOfTheLatestHead();
        lengthWhileItGrows();
        contentRange();
        ANSWERS.finish();
    }

    private static void sentence(String words) {
        ANSWERS.sentence(words);
    }

    private static void due(String what, Object got, Object want) {
        ANSWERS.due(what, got, want);
    }

    private static TemplateCaller after(String bytes) {
        TemplateCaller x = new TemplateCaller();
        Calls.fed(x, bytes);
        return x;
    }

    /** Of a new reader: the state before the last byte and behind it. */
    private static String lastStep(String bytes) {
        TemplateCaller x = after(bytes.substring(0, bytes.length() - 1));
        return x.state() + " " + x.feed(bytes.charAt(bytes.length() - 1));
    }

    /** State, status, field lines and length. */
    private static String seen(TemplateCaller x) {
        return x.state() + " " + x.status() + " " + x.fields() + " " + x.length();
    }

    // Lines.

    private static void lineLength() {
        sentence("A LINE is a row of at most 60 bytes 32 .. 126 or 9, followed by the bytes 13, 10.");
        for (String[] line : LINES) {
            String state = line[2];
            String sixty = line[0] + line[1] + "~".repeat(60 - line[1].length());
            due("59 bytes", lastStep(sixty.substring(0, sixty.length() - 1) + "\r\n"), state + " " + state);
            due("60 bytes", lastStep(sixty), state + " " + state);
            due("60 bytes and 13", lastStep(sixty + "\r"), state + " " + state);
            due("60 bytes and 13, 10", lastStep(sixty + "\r\n"), state + " " + state);
            due("60 bytes and 13, 13", lastStep(sixty + "\r\r"), state + " 3");
            for (int b = 0; b <= 255; b++) {
                due("a 61st byte " + b, after(sixty).feed(b), b == 13 ? Integer.parseInt(state) : 3);
            }
        }
        String wrong = "x".repeat(60);
        due("60 wrong bytes", lastStep(wrong + "\r"), "0 0");
        due("60 wrong bytes and the line's end", lastStep(wrong + "\r\n"), "0 3");
    }

    private static void lineBytes() {
        sentence("While lines are read, a byte that is none of 32 .. 126, 9, 13, a 13 that is not followed by 10,"
            + " and a 61st byte that is not 13 break the reader at once, when the byte comes");
        for (String[] line : LINES) {
            int state = Integer.parseInt(line[2]);
            for (int b = 0; b <= 255; b++) {
                boolean right = b >= 32 && b <= 126 || b == 9 || b == 13;
                due("byte " + b + " first", after(line[0]).feed(b), right ? state : 3);
                due("byte " + b + " later", after(line[0] + line[1]).feed(b), right ? state : 3);
                String sixty = line[0] + line[1] + "\t".repeat(59 - line[1].length());
                due("byte " + b + " as the 60th", after(sixty).feed(b), right ? state : 3);
            }
        }
    }

    private static void returnWithoutNewline() {
        sentence("(for the 13: when the one behind it comes)");
        for (String[] line : LINES) {
            int state = Integer.parseInt(line[2]);
            for (int b = 0; b <= 255; b++) {
                TemplateCaller x = after(line[0] + line[1]);
                due("the 13", x.feed(13), state);
                due("byte " + b + " behind it", x.feed(b), b == 10 ? state : 3);
            }
        }
        due("13 first of all", new TemplateCaller().feed(13), 0);
        due("10 first of all", new TemplateCaller().feed(10), 3);
    }

    private static void lookedAtWhenComplete() {
        sentence("all else is looked at when the line is complete");
        String[] lines = {"x", OK + "x", OK + "content-length: x", OK + "content-length: 12345", CHUNKED + "x", CHUNKED + "0001",
            CHUNKED + "79", LAST + "x", LAST + "content-length: 0", OK + "a:\r\n".repeat(8) + "a:"};
        for (String line : lines) {
            int state = after(line).state();
            due(line + " so far", state < 2, true);
            due(line + " and 13", lastStep(line + "\r"), state + " " + state);
            due(line + " and 13, 10", lastStep(line + "\r\n"), state + " 3");
        }
    }

    private static void emptyLines() {
        sentence("An empty line ends the head.");
        due("an empty first line", lastStep("\r\n"), "0 3");
        due("an empty first line behind a forgotten head", lastStep("HTTP/1.1 100 \r\n\r\n\r\n"), "0 3");
        due("an empty line behind the first", lastStep(OK + "\r\n"), "0 1");
        due("an empty line behind a field line", lastStep(OK + "a:\r\n\r\n"), "0 1");
        due("an empty line of a chunk", lastStep(CHUNKED + "\r\n"), "1 3");
        due("an empty line behind the last chunk", lastStep(LAST + "\r\n"), "1 2");
        due("a space is no empty line", lastStep(OK + " \r\n"), "0 3");
        due("a 9 is no empty line", lastStep(OK + "\t\r\n"), "0 3");
        due("a space behind the last chunk", lastStep(LAST + " \r\n"), "1 3");
    }

    // The head.

    private static void firstLine() {
        sentence("the first line must be HTTP/1.1, a space, three digits of which the first is 1 .. 5 (the STATUS),"
            + " a space, and anything");
        String right = "HTTP/1.1 200 ";
        due("nothing behind the space", lastStep(right + "\r\n"), "0 0");
        due("a space and a 9 behind it", lastStep(right + " \t\r\n"), "0 0");
        due("without the space", lastStep("HTTP/1.1 200\r\n"), "0 3");
        for (int i = 0; i < right.length(); i++) {
            for (char c = 32; c <= 126; c++) {
                String line = right.substring(0, i) + c + right.substring(i + 1);
                boolean fits = line.matches("HTTP/1\\.1 [1-5][0-9][0-9] ");
                due("first line " + line, lastStep(line + "\r\n"), fits ? "0 0" : "0 3");
            }
            due("a 9 at " + i, lastStep(right.substring(0, i) + "\t" + right.substring(i + 1) + "\r\n"), "0 3");
            due("cut at " + i, lastStep(right.substring(0, i) + "\r\n"), "0 3");
            due("without " + i, lastStep(right.substring(0, i) + right.substring(i + 1) + "ok\r\n"), "0 3");
        }
    }

    private static void statusDigits() {
        sentence("three digits of which the first is 1 .. 5 (the STATUS)");
        for (int code = 0; code <= 999; code++) {
            String line = String.format("HTTP/1.1 %03d \r\n", code);
            boolean right = code >= 100 && code <= 599;
            due("first line " + code, lastStep(line), right ? "0 0" : "0 3");
            if (right) {
                boolean kept = code >= 200 || code == 101;
                due("status() of " + code, after(line + "\r\n").status(), kept ? code : 0);
            }
        }
        due("two digits", lastStep("HTTP/1.1 20 \r\n"), "0 3");
        due("four digits", lastStep("HTTP/1.1 2000 \r\n"), "0 3");
    }

    private static void fieldLineCount() {
        sentence("Then come FIELD LINES, at most eight");
        for (int count = 0; count <= 8; count++) {
            TemplateCaller x = after(OK + "a: b\r\n".repeat(count));
            due(count + " lines", seen(x), "0 0 " + count + " 0");
            due(count + " lines and an empty one", Calls.fed(x, "\r\n"), 1);
            due(count + " lines and an empty one", seen(x), "1 200 " + count + " 0");
        }
        String eight = OK + "a: b\r\n".repeat(8);
        due("a ninth", lastStep(eight + "a: b\r\n"), "0 3");
        due("a ninth, not yet complete", lastStep(eight + "a: b\r"), "0 0");
        due("fields with a ninth", seen(after(eight + "a: b\r\n")), "3 0 8 0");
        due("a length as the eighth", lastStep(OK + "a:\r\n".repeat(7) + "content-length: 0\r\n\r\n"), "0 2");
        due("a length as the ninth", lastStep(eight + "content-length: 0\r\n"), "0 3");
        due("eight lengths", lastStep(OK + "content-length: 0\r\n".repeat(8) + "\r\n"), "0 2");
        due("nine lengths", lastStep(OK + "content-length: 0\r\n".repeat(9)), "0 3");
    }

    private static void fieldNames() {
        sentence("each a name of one or more of the letters a .. z and A .. Z, the digits and -; a colon; and anything");
        for (int c = 32; c <= 126; c++) {
            String name = String.valueOf((char) c);
            boolean right = name.matches("[a-zA-Z0-9-]");
            due("name " + name, lastStep(OK + name + ":b\r\n"), right ? "0 0" : "0 3");
            boolean later = right || c == ':';
            due("name x" + name, lastStep(OK + "x" + name + ":b\r\n"), later ? "0 0" : "0 3");
            due("value " + name, lastStep(OK + "x:" + name + "\r\n"), "0 0");
            due("name " + name + " behind the last chunk", lastStep(LAST + name + ":b\r\n"), right ? "1 1" : "1 3");
        }
        due("no name", lastStep(OK + ":b\r\n"), "0 3");
        due("no colon", lastStep(OK + "x\r\n"), "0 3");
        due("a 9 in the name", lastStep(OK + "x\t:\r\n"), "0 3");
        due("a name of 59", lastStep(OK + "x".repeat(59) + ":\r\n"), "0 0");
        due("60 bytes and no colon", lastStep(OK + "x".repeat(60) + "\r\n"), "0 3");
        due("a colon alone", lastStep(OK + ":\r\n"), "0 3");
        due("colons in the value", lastStep(OK + "x:::\r\n"), "0 0");
    }

    private static void fieldValues() {
        sentence("its VALUE is that without the bytes 32 and 9 at both ends");
        String[] right = {"7", " 7", "7 ", " 7 ", "\t7", "7\t", "\t \t7\t \t", " ".repeat(44) + "7", "7" + "\t".repeat(44)};
        for (String value : right) {
            TemplateCaller x = after(OK + "content-length:" + value + "\r\n\r\n1234567");
            due("content-length:" + value, seen(x), "2 200 1 7");
        }
        for (String value : new String[] {"", " ", "\t", " \t ", "1 1", "1\t1", " ".repeat(45)}) {
            due("content-length:" + value, lastStep(OK + "content-length:" + value + "\r\n"), "0 3");
        }
        due("chunked with blanks", lastStep(OK + "transfer-encoding:\t chunked \t\r\n"), "0 0");
        due("nothing but blanks", lastStep(OK + "transfer-encoding: \t \r\n"), "0 3");
        due("blanks in another value", lastStep(OK + "x: \t \r\n"), "0 0");
    }

    private static void contentLengthDigits() {
        sentence("The value of content-length must be one to four digits");
        for (String value : new String[] {"0", "9", "00", "10", "99", "000", "120", "999", "0000", "0001", "0120", "9999"}) {
            due("content-length:" + value, lastStep(OK + "content-length:" + value + "\r\n"), "0 0");
        }
        for (String value : new String[] {"", "00000", "00001", "12345", "99999", "000000", "-", "-1", "+1", "1.", "0x1", "a",
            "1a", "1,1", "1;", "\"1\""}) {
            due("content-length:" + value, lastStep(OK + "content-length:" + value + "\r\n"), "0 3");
        }
        for (char c = 33; c <= 126; c++) {
            boolean digit = c >= '0' && c <= '9';
            due("content-length:" + c, lastStep(OK + "content-length:" + c + "\r\n"), digit ? "0 0" : "0 3");
        }
        sentence("Names and the word chunked count alike in small and in capital letters.");
        for (String name : new String[] {"content-length", "CONTENT-LENGTH", "Content-Length", "cONTENT-lENGTh"}) {
            due(name, lastStep(OK + name + ":x\r\n"), "0 3");
            due(name + " of 3", after(OK + name + ":3\r\n\r\nabc").state(), 2);
        }
        for (String name : new String[] {"content-lengt", "content-lengthh", "xcontent-length", "contentlength",
            "content-length-", "-content-length", "c0ntent-length"}) {
            due(name, lastStep(OK + name + ":x\r\n"), "0 0");
        }
    }

    private static void contentLengthAgain() {
        sentence("there may be more such lines, with the same number");
        String[][] same = {{"0", "0"}, {"5", "5"}, {"5", "05"}, {"0005", "5"}, {"0", "0000"}, {"9999", "9999"}, {"5", " 5\t"}};
        for (String[] pair : same) {
            String lines = "content-length:" + pair[0] + "\r\ncontent-length:" + pair[1] + "\r\n";
            due(lines, lastStep(OK + lines), "0 0");
            due(lines, after(OK + lines).fields(), 2);
        }
        String[][] others = {{"0", "1"}, {"1", "0"}, {"5", "50"}, {"9999", "9998"}, {"120", "121"}, {"5", "x"}, {"5", ""},
            {"5", "00005"}};
        for (String[] pair : others) {
            String lines = "content-length:" + pair[0] + "\r\nCONTENT-LENGTH:" + pair[1] + "\r\n";
            due(lines, lastStep(OK + lines), "0 3");
            due(lines, seen(after(OK + lines)), "3 0 1 0");
        }
        due("a third one", lastStep(OK + "content-length:2\r\n".repeat(2) + "a:\r\ncontent-length:3\r\n"), "0 3");
        due("five bytes once", seen(after(OK + "content-length:5\r\n".repeat(3) + "\r\n12345")), "2 200 3 5");
    }

    private static void transferEncoding() {
        sentence("The value of transfer-encoding must be chunked; there must be no second such line");
        String name = "transfer-encoding:";
        for (String value : new String[] {"chunked", "CHUNKED", "Chunked", "cHUNKEd"}) {
            due(name + value, lastStep(OK + name + value + "\r\n"), "0 0");
            due("chunks with " + value, after(OK + name + value + "\r\n\r\n0\r\n\r\n").state(), 2);
        }
        for (String like : new String[] {"TRANSFER-ENCODING:", "Transfer-Encoding:", "tRANSFER-eNCODINg:"}) {
            due(like + "x", lastStep(OK + like + "x\r\n"), "0 3");
            due("chunks with " + like, after(OK + like + "chunked\r\n\r\n0\r\n\r\n").state(), 2);
            due(like + " behind the last chunk", lastStep(LAST + like + "\r\n"), "1 3");
        }
        for (String value : new String[] {"", "chunke", "chunkedx", "xchunked", "chunked,", "chunked chunked", "identity",
            "gzip, chunked", "chunked;q=1", "0", "chunkee", "bhunked"}) {
            due(name + value, lastStep(OK + name + value + "\r\n"), "0 3");
            due(name + value, after(OK + name + value + "\r\n").fields(), 0);
        }
        due("a second one", seen(after(OK + (name + "chunked\r\n").repeat(2))), "3 0 1 0");
        due("a second one, later", seen(after(OK + name + "chunked\r\na:\r\n" + name + "chunked\r\n")), "3 0 2 0");
        for (String other : new String[] {"transfer-encodin:", "transfer-encodingg:", "transferencoding:", "x-transfer-encoding:"}) {
            due(other, lastStep(OK + other + "gzip\r\n"), "0 0");
        }
    }

    private static void codingAndLength() {
        sentence("and not both such a line and a content-length");
        for (String value : new String[] {"0", "5", "9999"}) {
            String sizing = "content-length:" + value + "\r\n";
            String coding = "transfer-encoding:chunked\r\n";
            due("length, then encoding", seen(after(OK + sizing + coding)), "3 0 1 0");
            due("encoding, then length", seen(after(OK + coding + sizing)), "3 0 1 0");
            due("when the line is complete", lastStep(OK + coding + sizing), "0 3");
            due("with a line between", seen(after(OK + sizing + "a:\r\n" + coding)), "3 0 2 0");
        }
    }

    private static void status101() {
        sentence("for a status 101 the reader breaks");
        for (int verb = 0; verb <= 4; verb++) {
            TemplateCaller x = Calls.declared(verb, "");
            due("101 so far", Calls.fed(x, "HTTP/1.1 101 \r\na:\r\n\r"), 0);
            due("its end, verb " + verb, x.feed(10), 3);
            due("its status and fields", seen(x), "3 101 1 0");
        }
        due("with a length of 0", lastStep("HTTP/1.1 101 \r\ncontent-length:0\r\n\r\n"), "0 3");
        due("behind a forgotten head", lastStep("HTTP/1.1 100 \r\n\r\nHTTP/1.1 101 \r\n\r\n"), "0 3");
    }

    private static void forgottenHeads() {
        sentence("for another from 100 to 199 it forgets this head, and the next line is the first of a new one");
        for (int code = 100; code <= 200; code++) {
            if (code == 101) {
                continue;
            }
            TemplateCaller x = after("HTTP/1.1 " + code + " \r\na:\r\ncontent-length:9999\r\n");
            due("fields() of " + code, x.fields(), 2);
            due("the end of " + code, Calls.fed(x, "\r\n"), code < 200 ? 0 : 3);
            due("what is left of " + code, seen(x), code < 200 ? "0 0 0 0" : "3 200 2 0");
            due("behind " + code, Calls.fed(x, "HTTP/1.1 204 \r\n\r\n"), code < 200 ? 2 : 3);
        }
        TemplateCaller x = Calls.declared(Calls.HEAD, "");
        due("with HEAD", Calls.fed(x, "HTTP/1.1 199 \r\n\r\n"), 0);
        String forgotten = "HTTP/1.1 100 \r\n\r\n";
        due("a field line is no first one", lastStep(forgotten + "a: b\r\n"), "0 3");
        due("twenty of them", seen(after(forgotten.repeat(20) + OK + "a:\r\n\r\nxyz")), "1 200 1 3");
        String eight = "a:\r\n".repeat(8);
        due("eight lines in each", seen(after("HTTP/1.1 100 \r\n" + eight + "\r\n" + OK + eight + "\r\n")), "1 200 8 0");
        due("another length in each", seen(after("HTTP/1.1 100 \r\ncontent-length:1\r\n\r\n" + OK
            + "content-length:2\r\n\r\nab")), "2 200 1 2");
        due("an encoding in each", seen(after("HTTP/1.1 100 \r\ntransfer-encoding:chunked\r\n\r\n" + CHUNKED)), "1 200 1 0");
        due("an encoding, then a length", seen(after("HTTP/1.1 100 \r\ntransfer-encoding:chunked\r\n\r\n" + OK
            + "content-length:0\r\n\r\n")), "2 200 1 0");
        due("a wrong line of a head to be forgotten", lastStep("HTTP/1.1 100 \r\ncontent-length:x\r\n"), "0 3");
    }

    private static void headsWithoutContent() {
        sentence("Otherwise, when the verb is HEAD, or the status is 204 or 304: COMPLETE.");
        String[] lines = {"", "content-length:0\r\n", "content-length:5\r\n", "content-length:121\r\n",
            "content-length:9999\r\n", "transfer-encoding:chunked\r\n"};
        for (String line : lines) {
            int fields = line.isEmpty() ? 0 : 1;
            for (int code : new int[] {204, 304}) {
                for (int verb = 0; verb <= 4; verb++) {
                    TemplateCaller x = Calls.declared(verb, "");
                    Calls.fed(x, "HTTP/1.1 " + code + " \r\n" + line + "\r\n");
                    due(code + " with " + line, seen(x), "2 " + code + " " + fields + " 0");
                }
            }
            for (int code : new int[] {200, 203, 205, 303, 305, 599}) {
                TemplateCaller x = Calls.declared(Calls.HEAD, "");
                Calls.fed(x, "HTTP/1.1 " + code + " \r\n" + line + "\r\n");
                due("HEAD, " + code + " with " + line, seen(x), "2 " + code + " " + fields + " 0");
            }
        }
        for (int code : new int[] {200, 203, 205, 299, 300, 303, 305, 400, 500, 599}) {
            for (int verb : new int[] {0, 2, 3, 4}) {
                TemplateCaller x = Calls.declared(verb, "");
                due("verb " + verb + ", " + code, Calls.fed(x, "HTTP/1.1 " + code + " \r\n\r\n"), 1);
            }
        }
    }

    // The content.

    private static void contentLengthSize() {
        sentence("the reader breaks when n is more than 120; it is COMPLETE when n is 0;"
            + " else n bytes follow, any ones, and then it is COMPLETE");
        for (int n : new int[] {0, 1, 2, 119, 120, 121, 122, 255, 256, 999, 1000, 9999}) {
            TemplateCaller x = after(OK + "content-length:" + n + "\r\n\r");
            due("before the head's end, " + n, seen(x), "0 0 1 0");
            due("at the head's end, " + n, x.feed(10), n == 0 ? 2 : n > 120 ? 3 : 1);
            if (n > 120) {
                due("broken by " + n, seen(x), "3 200 1 0");
                continue;
            }
            for (int i = 1; i <= n; i++) {
                due("byte " + i + " of " + n, x.feed(255 - i), i == n ? 2 : 1);
            }
            due("all of " + n, seen(x), "2 200 1 " + n);
            x.feed('x');
            due("a byte more than " + n, seen(x), "2 200 1 " + n);
        }
        for (int b = 0; b <= 255; b++) {
            TemplateCaller x = after(OK + "content-length:2\r\n\r\n");
            due("byte " + b, x.feed(b) + " " + x.content(0), "1 " + b);
            due("byte " + b + " last", x.feed(b) + " " + x.content(1), "2 " + b);
        }
    }

    private static void contentUpToClose() {
        sentence("with neither: all bytes up to the close are the content, and a 121st breaks the reader");
        for (int n : new int[] {0, 1, 119, 120}) {
            TemplateCaller x = after(OK + "\r\n" + "\n".repeat(n));
            due(n + " bytes", seen(x), "1 200 0 " + n);
            due("close() behind " + n, x.close(), 2);
            due(n + " bytes closed", seen(x), "2 200 0 " + n);
        }
        TemplateCaller x = after(OK + "\r\n" + "\n".repeat(120));
        due("a 121st", x.feed('x'), 3);
        due("then", seen(x), "3 200 0 120");
        due("the 120th byte", x.content(119), 10);
        due("no 121st", x.content(120), -1);
        due("close() then", x.close(), 3);
        for (int b = 0; b <= 255; b++) {
            x = after(OK + "\r\n");
            due("byte " + b, x.feed(b) + " " + x.content(0), "1 " + b);
        }
        x = after(OK + "\r\n0\r\n\r\n");
        due("no chunks here", seen(x), "1 200 0 5");
    }

    private static void chunkDigits() {
        sentence("A CHUNK is a line with one to three hexadecimal digits (0 .. 9, a .. f, A .. F), its size");
        for (char c = 32; c <= 126; c++) {
            int size = Character.digit(c, 16);
            due("the line " + c, lastStep(CHUNKED + c + "\r\n"), size >= 0 ? "1 1" : "1 3");
            if (size > 0) {
                TemplateCaller x = after(CHUNKED + c + "\r\n" + "z".repeat(size) + "\r\n0\r\n\r\n");
                due("a chunk of " + c, seen(x), "2 200 1 " + size);
            }
            boolean two = size >= 0 || c == ';';
            due("the line 1" + c, lastStep(CHUNKED + "1" + c + "\r\n"), two ? "1 1" : "1 3");
            due("the line 00" + c, lastStep(CHUNKED + "00" + c + "\r\n"), two ? "1 1" : "1 3");
            due("the line 001" + c, lastStep(CHUNKED + "001" + c + "\r\n"), c == ';' ? "1 1" : "1 3");
        }
        due("no digit", lastStep(CHUNKED + "\r\n"), "1 3");
        due("no digit, a semicolon", lastStep(CHUNKED + ";\r\n"), "1 3");
        due("two digits", seen(after(CHUNKED + "1a\r\n" + "z".repeat(26) + "\r\n0\r\n\r\n")), "2 200 1 26");
        due("three digits", seen(after(CHUNKED + "01A\r\n" + "z".repeat(26) + "\r\n0\r\n\r\n")), "2 200 1 26");
        due("four digits", lastStep(CHUNKED + "001a\r\n"), "1 3");
        due("four digits of a last chunk", lastStep(CHUNKED + "0000\r\n"), "1 3");
        due("five digits", lastStep(CHUNKED + "00001\r\n"), "1 3");
    }

    private static void chunkExtension() {
        sentence("and behind them nothing, or a semicolon and anything");
        for (String rest : new String[] {"", ";", ";;", "; ", ";\t", ";a=b", ";0", ";" + "~".repeat(58)}) {
            due("1" + rest, lastStep(CHUNKED + "1" + rest + "\r\n"), "1 1");
            due("0" + rest, lastStep(CHUNKED + "0" + rest + "\r\n\r\n"), "1 2");
        }
        for (String rest : new String[] {" ", "\t", " ;", "\t;", ":", ",", "x", "h", "-"}) {
            due("1" + rest, lastStep(CHUNKED + "1" + rest + "\r\n"), "1 3");
            due("0" + rest, lastStep(CHUNKED + "0" + rest + "\r\n"), "1 3");
        }
        due("three digits and a semicolon", lastStep(CHUNKED + "001;x\r\n"), "1 1");
    }

    private static void chunkSizes() {
        sentence("The reader breaks when the content would have more than 120 bytes with it (when its line is complete)");
        int[][] sums = {{120}, {119, 1}, {1, 119}, {60, 60}, {40, 40, 40}};
        for (int[] sum : sums) {
            String bytes = CHUNKED;
            for (int size : sum) {
                bytes += chunk(size);
            }
            due("120 bytes", seen(after(bytes)), "1 200 1 120");
            due("120 bytes and a last chunk", lastStep(bytes + "0\r\n\r\n"), "1 2");
            due("120 bytes and one more", lastStep(bytes + "1\r\n"), "1 3");
            due("what is read then", seen(after(bytes + "1\r\n")), "3 200 1 120");
            due("before its line is complete", lastStep(bytes + "1\r"), "1 1");
        }
        due("121 at once", lastStep(CHUNKED + "79\r\n"), "1 3");
        due("4095 at once", lastStep(CHUNKED + "fff\r\n"), "1 3");
        due("256 at once", lastStep(CHUNKED + "100\r\n"), "1 3");
        due("119 and 2", lastStep(CHUNKED + chunk(119) + "2\r\n"), "1 3");
        due("1 and 120", lastStep(CHUNKED + chunk(1) + "78\r\n"), "1 3");
        due("1 and 4095", lastStep(CHUNKED + chunk(1) + "FFF\r\n"), "1 3");
        for (int b = 0; b <= 255; b++) {
            TemplateCaller x = after(CHUNKED + "2\r\n");
            due("byte " + b, x.feed(b) + " " + x.feed(b) + " " + x.content(1), "1 1 " + b);
        }
    }

    private static String chunk(int size) {
        return Integer.toHexString(size) + "\r\n" + "z".repeat(size) + "\r\n";
    }

    private static void chunkEnd() {
        sentence("and at a byte that should be that 13 or 10 and is not");
        for (int b = 0; b <= 255; b++) {
            due("byte " + b + " for the 13", after(CHUNKED + "1\r\nz").feed(b), b == 13 ? 1 : 3);
            due("byte " + b + " for the 10", after(CHUNKED + "1\r\nz\r").feed(b), b == 10 ? 1 : 3);
        }
        due("one byte too many", seen(after(CHUNKED + "1\r\nzz")), "3 200 1 1");
        due("one byte too few", seen(after(CHUNKED + "3\r\nz\r\n")), "1 200 1 3");
        due("behind 120 bytes", after(CHUNKED + "78\r\n" + "z".repeat(120)).feed('z'), 3);
    }

    private static void lastChunk() {
        sentence("A chunk of size 0 is the last one: no bytes and no 13, 10 belong to it");
        for (String size : new String[] {"0", "00", "000", "0;", "000;x"}) {
            due("the line " + size, lastStep(CHUNKED + size + "\r\n"), "1 1");
            due("the line " + size + " and an empty one", lastStep(CHUNKED + size + "\r\n\r\n"), "1 2");
            due("behind other chunks", seen(after(CHUNKED + chunk(2) + size + "\r\n\r\n")), "2 200 1 2");
            due("a byte behind it", lastStep(CHUNKED + size + "\r\nz\r\n"), "1 3");
            due("a chunk behind it", lastStep(CHUNKED + size + "\r\n1\r\n"), "1 3");
        }
        due("behind all", seen(after(LAST + "\r\n" + "x\r\n")), "2 200 1 0");
    }

    private static void trailingCount() {
        sentence("but field lines as in a head, at most eight");
        for (int count = 0; count <= 8; count++) {
            TemplateCaller x = after(LAST + "a: b\r\n".repeat(count));
            due(count + " lines", seen(x), "1 200 1 0");
            due(count + " lines and an empty one", Calls.fed(x, "\r\n"), 2);
            due(count + " lines and an empty one", seen(x), "2 200 1 0");
        }
        due("a ninth", lastStep(LAST + "a: b\r\n".repeat(9)), "1 3");
        due("a ninth, not yet complete", lastStep(LAST + "a: b\r\n".repeat(8) + "a: b\r"), "1 1");
        due("fields with a ninth", seen(after(LAST + "a: b\r\n".repeat(9))), "3 200 1 0");
        String full = OK + "a:\r\n".repeat(7) + "transfer-encoding:chunked\r\n\r\n0\r\n" + "a:\r\n".repeat(8) + "\r\n";
        due("eight in the head, eight behind", seen(after(full)), "2 200 8 0");
        TemplateCaller x = after(LAST + "a:\r\n".repeat(8) + "\r\n");
        x.reset();
        due("eight again", Calls.fed(x, LAST + "a:\r\n".repeat(8) + "\r\n"), 2);
    }

    private static void trailingNames() {
        sentence("of which none may be a content-length or transfer-encoding, and an empty line: COMPLETE");
        for (String line : new String[] {"content-length:0", "Content-Length: 5", "CONTENT-LENGTH:", "transfer-encoding:chunked",
            "Transfer-Encoding:", "a", ":", "a b:", " a:", "a_:"}) {
            due(line, lastStep(LAST + line + "\r\n"), "1 3");
            due(line + " as the eighth", lastStep(LAST + "a:\r\n".repeat(7) + line + "\r\n"), "1 3");
            due("what is read then", seen(after(CHUNKED + chunk(3) + "0\r\n" + line + "\r\n")), "3 200 1 3");
        }
        for (String line : new String[] {"a:", "content-lengt:x", "content-lengthx:", "transfer-encodings:x", "-:", "9: :"}) {
            due(line, lastStep(LAST + line + "\r\n\r\n"), "1 2");
        }
    }

    // Promises 11 to 18.

    private static void feedRange() {
        sentence("BAD, changing nothing, when b is not 0 .. 255.");
        String[] pasts = {"", "HTTP/1.1 200 \r", OK, OK + "a:", OK + "\r", OK + "content-length:3\r\n\r\na", OK + "\r\nabc",
            CHUNKED, CHUNKED + "2\r\na", CHUNKED + "1\r\na", CHUNKED + "1\r\na\r", LAST, LAST + "a:\r\n", LAST + "\r\n", "\n"};
        int[] wrong = {-1, -2, 256, 257, -256, 256 + 13, 1 << 16, Integer.MIN_VALUE, Integer.MAX_VALUE};
        for (String past : pasts) {
            for (int b : wrong) {
                due("feed(" + b + ") behind " + past, after(past).feed(b), TemplateCaller.BAD);
                Twins.due(ANSWERS, "feed(" + b + ") behind " + past, x -> Calls.fed(x, past), x -> x.feed(b));
            }
            due("feed(0) behind " + past, after(past).feed(0) >= 0, true);
            due("feed(255) behind " + past, after(past).feed(255) >= 0, true);
        }
    }

    private static void verbAtTheHeadsEnd() {
        sentence("(The verb that counts when a head ends is that of the declaration as it is then;"
            + " another one later changes nothing for that head.)");
        for (int before = 0; before <= 4; before++) {
            for (int then = 0; then <= 4; then++) {
                TemplateCaller x = Calls.declared(before, "");
                Calls.fed(x, OK + "content-length:2\r\n\r");
                x.declare(then);
                due(before + ", then " + then, x.feed(10), then == Calls.HEAD ? 2 : 1);
                x.declare(before);
                due("again " + before, x.feed('a'), then == Calls.HEAD ? 2 : 1);
                x.declare(Calls.HEAD);
                due("HEAD later", x.feed('b'), 2);
                due("what is read", x.length(), then == Calls.HEAD ? 0 : 2);
            }
        }
        TemplateCaller x = after(CHUNKED);
        x.declare(Calls.HEAD);
        due("HEAD in the chunks", Calls.states(x, "1\r\na\r\n0\r\n\r\n"), "12");
        x.reset();
        due("HEAD for the next response", Calls.fed(x, CHUNKED), 2);
        x = Calls.declared(Calls.HEAD, "");
        Calls.fed(x, "HTTP/1.1 100 \r\n\r\n");
        x.declare(Calls.GET);
        due("HEAD for a forgotten head alone", Calls.fed(x, OK + "\r\n"), 1);
        x = Calls.declared(Calls.HEAD, "");
        x.declare(-1);
        due("a refused verb", Calls.fed(x, OK + "\r\n"), 2);
    }

    private static void nothingChangesAtTheEnd() {
        sentence("In the last two, nothing that comes changes anything.");
        String[] ends = {"HTTP/1.1 204 \r\n\r\n", OK + "content-length:1\r\n\r\na", LAST + "\r\n", "\n", OK + "x\r\n",
            "HTTP/1.1 101 \r\n\r\n", OK + "content-length:121\r\n\r\n", CHUNKED + "1\r\nab", OK + "\r\n" + "a".repeat(121)};
        for (String end : ends) {
            TemplateCaller x = after(end);
            String seen = seen(x) + Calls.contentText(x);
            int state = x.state();
            due("an end", state == 2 || state == 3, true);
            for (int b : new int[] {0, 9, 10, 13, 32, 255}) {
                due("feed(" + b + ") behind " + end, x.feed(b), state);
            }
            due("close() behind " + end, x.close(), state);
            due("a whole response behind " + end, Calls.states(x, OK + "a:\r\n\r\nxyz"), String.valueOf(state));
            due("what is seen behind " + end, seen(x) + Calls.contentText(x), seen);
        }
        TemplateCaller x = after(OK + "\r\nab");
        x.close();
        due("feed() behind a close", x.feed('c'), 2);
        due("what is seen behind a close", seen(x) + Calls.contentText(x), "2 200 0 2ab");
        x = after("H");
        x.close();
        due("feed() behind a close that broke", Calls.fed(x, "TTP/1.1 204 \r\n\r\n"), 3);
        due("a further close", x.close(), 3);
    }

    /** Bytes; then state, status, field lines and length behind them; then the state behind a close. */
    private static final String[][] PLACES = {
        {"", "0 0 0 0", "3"},
        {"HTTP", "0 0 0 0", "3"},
        {"HTTP/1.1 200 \r", "0 0 0 0", "3"},
        {OK, "0 0 0 0", "3"},
        {OK + "a: b", "0 0 0 0", "3"},
        {OK + "a: b\r\n", "0 0 1 0", "3"},
        {OK + "a: b\r\n\r", "0 0 1 0", "3"},
        {"HTTP/1.1 100 \r\na:\r\n", "0 0 1 0", "3"},
        {"HTTP/1.1 100 \r\na:\r\n\r\n", "0 0 0 0", "3"},
        {"HTTP/1.1 100 \r\na:\r\n\r\n" + OK, "0 0 0 0", "3"},
        {OK + "content-length:2\r\n\r\n", "1 200 1 0", "3"},
        {OK + "content-length:2\r\n\r\na", "1 200 1 1", "3"},
        {OK + "content-length:2\r\n\r\nab", "2 200 1 2", "2"},
        {OK + "content-length:0\r\n\r\n", "2 200 1 0", "2"},
        {OK + "\r\n", "1 200 0 0", "2"},
        {OK + "a:\r\n\r\nabc", "1 200 1 3", "2"},
        {CHUNKED, "1 200 1 0", "3"},
        {CHUNKED + "2", "1 200 1 0", "3"},
        {CHUNKED + "2\r", "1 200 1 0", "3"},
        {CHUNKED + "2\r\n", "1 200 1 0", "3"},
        {CHUNKED + "2\r\na", "1 200 1 1", "3"},
        {CHUNKED + "2\r\nab", "1 200 1 2", "3"},
        {CHUNKED + "2\r\nab\r", "1 200 1 2", "3"},
        {CHUNKED + "2\r\nab\r\n", "1 200 1 2", "3"},
        {CHUNKED + "2\r\nab\r\n0\r\n", "1 200 1 2", "3"},
        {CHUNKED + "2\r\nab\r\n0\r\na:\r\n", "1 200 1 2", "3"},
        {CHUNKED + "2\r\nab\r\n0\r\na:\r\n\r", "1 200 1 2", "3"},
        {CHUNKED + "2\r\nab\r\n0\r\na:\r\n\r\n", "2 200 1 2", "2"},
        {"HTTP/1.1 304 \r\na:\r\n\r\n", "2 304 1 0", "2"},
        {"\n", "3 0 0 0", "3"},
        {OK + "a:\r\n:\r\n", "3 0 1 0", "3"},
        {"HTTP/1.1 101 \r\na:\r\n\r\n", "3 101 1 0", "3"},
        {"HTTP/1.1 599 \r\ncontent-length:121\r\n\r\n", "3 599 1 0", "3"},
        {OK + "\r\n" + "a".repeat(121), "3 200 0 120", "3"},
        {CHUNKED + "2\r\nabc", "3 200 1 2", "3"},
        {CHUNKED + "2\r\nab\r\n0\r\n:\r\n", "3 200 1 2", "3"},
    };

    private static void eachPlace() {
        sentence("COMPLETE, if the content goes up to the close and the state is CONTENT;"
            + " BROKEN, if the state is HEAD or CONTENT otherwise. Answers the state after that.");
        for (String[] place : PLACES) {
            TemplateCaller x = after(place[0]);
            String content = Calls.contentText(x);
            due("behind " + place[0], seen(x), place[1]);
            due("close() behind " + place[0], String.valueOf(x.close()), place[2]);
            due("behind a close behind " + place[0], seen(x), place[2] + place[1].substring(1));
            due("the content behind a close", Calls.contentText(x), content);
            due("close() again", String.valueOf(x.close()), place[2]);
        }
    }

    private static void resetEverywhere() {
        sentence("The reader is at its beginning again: HEAD, no status, no content.");
        String[] answers = {"HTTP/1.1 204 \r\n\r\n", CHUNKED + "1\r\nz\r\n0\r\n" + "b:\r\n".repeat(8) + "\r\n",
            OK + "a:\r\n".repeat(7) + "content-length:3\r\n\r\nxyz", "HTTP/1.1 404 " + "x".repeat(47) + "\r\n\r\nxyz"};
        for (String[] place : PLACES) {
            for (int closes = 0; closes <= 1; closes++) {
                for (String answer : answers) {
                    TemplateCaller x = after(place[0]);
                    if (closes == 1) {
                        x.close();
                    }
                    x.reset();
                    due("reset() behind " + place[0], seen(x) + " " + x.content(0), "0 0 0 0 -1");
                    TemplateCaller fresh = after(answer);
                    Calls.fed(x, answer);
                    due("a response behind reset()", seen(x) + Calls.contentText(x), seen(fresh) + Calls.contentText(fresh));
                }
            }
        }
        TemplateCaller x = Calls.declared(Calls.HEAD, "/ab");
        Calls.add(x, Calls.QUERY, 'q', "1");
        x.send();
        String made = Calls.sentText(x);
        x.reset();
        x.reset();
        due("the request stays", Calls.sentText(x), made);
        due("the declaration stays", x.send(), made.length());
    }

    private static void statusStays() {
        sentence("(It stays when the reader breaks later.)");
        String head = "HTTP/1.1 599 x\r\n";
        TemplateCaller x = after(head + "a:\r\n\r");
        due("before the head's end", x.status(), 0);
        x.feed(10);
        due("at the head's end", x.status(), 599);
        Calls.fed(x, "b".repeat(121));
        due("broken later", x.state() + " " + x.status(), "3 599");
        x = after(head + "transfer-encoding:chunked\r\n\r\nx\r\n");
        due("broken by a chunk", x.state() + " " + x.status(), "3 599");
        x = after(head + "content-length:1\r\n\r\n");
        x.close();
        due("broken by a close", x.state() + " " + x.status(), "3 599");
        x = after(head + "?\r\n");
        due("broken in the head", x.state() + " " + x.status(), "3 0");
        x = after(head + "a:\r\n");
        x.close();
        due("closed in the head", x.state() + " " + x.status(), "3 0");
    }

    private static void fieldsOfTheLatestHead() {
        sentence("The number of field lines of the head (of the latest one) that were read and did not break the reader;"
            + " a head that is forgotten has none any more. (Those behind the last chunk do not count.)");
        TemplateCaller x = after("HTTP/1.1 100 \r\na:\r\nb:\r\nc:\r\n");
        due("in a head to be forgotten", x.fields(), 3);
        x.feed(13);
        due("just before its end", x.fields(), 3);
        x.feed(10);
        due("forgotten", x.fields(), 0);
        Calls.fed(x, OK);
        due("in the next head", x.fields(), 0);
        Calls.fed(x, "a:\r");
        due("a line not yet complete", x.fields(), 0);
        x.feed(10);
        due("a complete one", x.fields(), 1);
        Calls.fed(x, "transfer-encoding:chunked\r\n\r\n0\r\na:\r\nb:\r\n\r\n");
        due("those behind the last chunk", x.state() + " " + x.fields(), "2 2");
        x = after("HTTP/1.1 100 \r\na:\r\n\r\nx\r\n");
        due("broken at once in the next head", seen(x), "3 0 0 0");
        x = after(OK + "a:\r\nb:\r\n\n");
        due("a line that breaks does not count", seen(x), "3 0 2 0");
    }

    private static void lengthWhileItGrows() {
        sentence("The number of bytes of the content that were read.");
        TemplateCaller x = after(OK + "\r\n");
        for (int n = 0; n <= 120; n++) {
            due("up to the close", x.length(), n);
            x.feed(n);
        }
        due("with a 121st", x.length(), 120);
        x = after(CHUNKED);
        for (int n = 1; n <= 3; n++) {
            Calls.fed(x, "2\r\n");
            due("a chunk's line", x.length(), 2 * n - 2);
            Calls.fed(x, "ab");
            due("a chunk's bytes", x.length(), 2 * n);
            Calls.fed(x, "\r\n");
            due("a chunk's end", x.length(), 2 * n);
        }
        Calls.fed(x, "0\r\na:b\r\n\r\n");
        due("a last chunk", seen(x), "2 200 1 6");
        due("with HEAD", after("HTTP/1.1 304 \r\ncontent-length:5\r\n\r\n12345").length(), 0);
    }

    private static void contentRange() {
        sentence("Byte i (0 the first) of the content that was read; -1 when there is none.");
        int[] outside = {-1, -2, 119, 120, 121, 65536, Integer.MIN_VALUE, Integer.MIN_VALUE + 1, Integer.MAX_VALUE,
            Integer.MAX_VALUE - 1};
        for (int i : outside) {
            due("content(" + i + ") of a new object", new TemplateCaller().content(i), -1);
            due("content(" + i + ") of three", after(OK + "\r\nabc").content(i), -1);
        }
        due("content(0) of a new object", new TemplateCaller().content(0), -1);
        due("content(0) of none", after(OK + "\r\n").content(0), -1);
        TemplateCaller x = after(OK + "content-length:120\r\n\r\n\u0080" + "a".repeat(118));
        due("the first of 119", x.content(0), 128);
        due("the last of 119", x.content(118), (int) 'a');
        due("one behind 119", x.content(119), -1);
        x.feed(255);
        due("the last of 120", x.content(119), 255);
        due("one behind 120", x.content(120), -1);
        x.reset();
        due("none behind reset()", x.content(0) + " " + x.content(119), "-1 -1");
        Calls.fed(x, OK + "\r\nxy");
        due("two behind reset()", x.content(1) + " " + x.content(2), (int) 'y' + " -1");
    }
}
