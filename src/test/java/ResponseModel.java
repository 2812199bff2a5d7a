import java.util.ArrayList;
import java.util.List;
import java.util.regex.Matcher;
import java.util.regex.Pattern;

/**
 * A second reading of the document's part on responses: it reads all the bytes that came from the
 * first one on, each time that it is asked, and stops where they end.
 */
final class ResponseModel {
    private static final Pattern FIRST = Pattern.compile("HTTP/1\\.1 ([1-5][0-9][0-9]) .*");
    private static final Pattern FIELD = Pattern.compile("([a-zA-Z0-9-]+):[ \t]*(.*?)[ \t]*");
    private static final Pattern CHUNK = Pattern.compile("([0-9a-fA-F]{1,3})(;.*)?");

    /** The bytes end before the reader has what it needs. */
    private static final class More extends Exception {
        private static final long serialVersionUID = 1;
    }

    /** The reader breaks. */
    private static final class Broken extends Exception {
        private static final long serialVersionUID = 1;
    }

    private final List<Integer> bytes = new ArrayList<>();
    private final List<Integer> verbs = new ArrayList<>();
    private boolean closed = false;
    private int at;
    private boolean toClose;

    int state;
    int status;
    int fields;
    StringBuilder content;

    ResponseModel() {
        readAll();
    }

    void feed(int b, int verb) {
        if (!closed) {
            bytes.add(b);
            verbs.add(verb);
        }
        readAll();
    }

    void close() {
        closed = true;
        readAll();
    }

    void reset() {
        closed = false;
        bytes.clear();
        verbs.clear();
        readAll();
    }

    private void readAll() {
        at = 0;
        toClose = false;
        state = 0;
        status = 0;
        fields = 0;
        content = new StringBuilder();
        try {
            readResponse();
            state = 2;
        } catch (Broken broken) {
            state = 3;
        } catch (More more) {
            if (closed) {
                state = toClose ? 2 : 3;
            }
        }
    }

    private void readResponse() throws More, Broken {
        int code = 100;
        List<String> lengths = new ArrayList<>();
        List<String> codings = new ArrayList<>();
        while (code / 100 == 1) {
            fields = 0;
            lengths.clear();
            codings.clear();
            code = Integer.parseInt(match(FIRST, readLine()).group(1));
            for (String line = readLine(); !line.isEmpty(); line = readLine()) {
                readField(line, lengths, codings);
            }
            if (code == 101) {
                status = 101;
                throw new Broken();
            }
        }
        status = code;
        if (verbs.get(at - 1) == 1 || code == 204 || code == 304) {
            return;
        }
        state = 1;
        if (!codings.isEmpty()) {
            readChunks();
        } else if (!lengths.isEmpty()) {
            int length = Integer.parseInt(lengths.get(0));
            breakIf(length > 120);
            readContent(length);
        } else {
            toClose = true;
            readContent(120);
            readByte();
            throw new Broken();
        }
    }

    private void readField(String line, List<String> lengths, List<String> codings) throws Broken {
        Matcher m = match(FIELD, line);
        breakIf(fields == 8);
        if (m.group(1).equalsIgnoreCase("content-length")) {
            breakIf(!m.group(2).matches("[0-9]{1,4}"));
            lengths.add(m.group(2));
        }
        if (m.group(1).equalsIgnoreCase("transfer-encoding")) {
            breakIf(!m.group(2).equalsIgnoreCase("chunked"));
            codings.add(m.group(2));
        }
        breakIf(lengths.stream().map(Integer::parseInt).distinct().count() > 1);
        breakIf(codings.size() > 1 || !codings.isEmpty() && !lengths.isEmpty());
        fields++;
    }

    private void readChunks() throws More, Broken {
        int size = -1;
        while (size != 0) {
            size = Integer.parseInt(match(CHUNK, readLine()).group(1), 16);
            breakIf(content.length() + size > 120);
            if (size > 0) {
                readContent(size);
                breakIf(readByte() != 13);
                breakIf(readByte() != 10);
            }
        }
        int lines = 0;
        for (String line = readLine(); !line.isEmpty(); line = readLine()) {
            String name = match(FIELD, line).group(1).toLowerCase();
            lines++;
            breakIf(lines > 8 || name.equals("content-length") || name.equals("transfer-encoding"));
        }
    }

    private void readContent(int count) throws More {
        for (int n = 0; n < count; n++) {
            content.append((char) readByte());
        }
    }

    private String readLine() throws More, Broken {
        StringBuilder line = new StringBuilder();
        int b = readByte();
        while (b != 13) {
            breakIf(line.length() == 60 || b != 9 && (b < 32 || b > 126));
            line.append((char) b);
            b = readByte();
        }
        breakIf(readByte() != 10);
        return line.toString();
    }

    private int readByte() throws More {
        if (at >= bytes.size()) {
            throw new More();
        }
        return bytes.get(at++);
    }

    private static Matcher match(Pattern pattern, String line) throws Broken {
        Matcher m = pattern.matcher(line);
        breakIf(!m.matches());
        return m;
    }

    private static void breakIf(boolean wrong) throws Broken {
        if (wrong) {
            throw new Broken();
        }
    }
}
