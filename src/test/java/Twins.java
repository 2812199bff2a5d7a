import java.util.function.Consumer;

/** Two objects with the same past, of which one gets calls that are to change nothing. */
final class Twins {
    private Twins() {
    }

    /** Whether the calls leave no trace behind the past: neither in what is there nor in what follows. */
    static void due(Answers answers, String what, Consumer<TemplateCaller> past, Consumer<TemplateCaller> calls) {
        TemplateCaller plain = new TemplateCaller();
        TemplateCaller other = new TemplateCaller();
        past.accept(plain);
        past.accept(other);
        calls.accept(other);
        answers.due(what + " changes nothing", look(other), look(plain));
    }

    /** All that an object answers now, and then behind further calls of each kind. */
    private static String look(TemplateCaller x) {
        StringBuilder seen = new StringBuilder(reader(x)).append(Calls.sentText(x));
        seen.append(x.check()).append(' ').append(x.send()).append(Calls.sentText(x));
        for (int k = -1; k <= 6; k++) {
            seen.append(x.write(k, 'x')).append(x.item(k)).append(x.write(k, 'y'));
        }
        seen.append(x.template('z')).append(x.parameter(Calls.QUERY, 'q'));
        seen.append(x.check()).append(' ').append(x.send()).append(Calls.sentText(x));
        // Ends a line in whatever place, then a head, a content and a last chunk.
        seen.append(Calls.states(x, "\r\n0\r\n\r\n")).append(reader(x));
        return seen.append(x.close()).append(reader(x)).toString();
    }

    private static String reader(TemplateCaller x) {
        return " " + x.state() + " " + x.status() + " " + x.fields() + " " + x.length() + " " + Calls.contentText(x) + " ";
    }
}
