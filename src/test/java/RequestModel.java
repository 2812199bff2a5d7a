import java.nio.charset.StandardCharsets;
import java.util.ArrayList;
import java.util.List;
import java.util.regex.Matcher;
import java.util.regex.Pattern;
import java.util.stream.Collectors;

/** A second reading of the document's part on requests, with the library's patterns and texts. */
final class RequestModel {
    private static final String VARIABLE = "[a-z](?:\\*|:[1-9])?";
    private static final Pattern WELL_FORMED = Pattern.compile(
        "(?=/)(?:[a-zA-Z0-9._~/?=&-]|\\{[+./;?&]?" + VARIABLE + "(?:," + VARIABLE + ")*\\})*");
    private static final Pattern EXPRESSION = Pattern.compile("\\{([+./;?&]?)([^}]*)\\}");
    private static final String[] VERBS = {"GET", "HEAD", "POST", "PUT", "DELETE"};

    /** A declared parameter with its items. */
    record Parameter(int kind, char letter, List<StringBuilder> items) {
        boolean inPath() {
            return kind <= 1;
        }
    }

    int verb = 0;
    final StringBuilder template = new StringBuilder();
    final List<Parameter> parameters = new ArrayList<>();
    String request = "";

    int check() {
        if (!WELL_FORMED.matcher(template).matches()) {
            return -1;
        }
        String used = letters(variables());
        String cut = letters(variables().stream().filter(v -> v.contains(":")).toList());
        String texts = letters(0);
        String lists = letters(1);
        String known = texts + lists;
        if (used.chars().anyMatch(c -> known.indexOf(c) < 0)) {
            return -2;
        }
        if (known.chars().distinct().count() != known.length()) {
            return -3;
        }
        if (known.chars().anyMatch(c -> used.indexOf(c) < 0)) {
            return -4;
        }
        if (cut.chars().anyMatch(c -> lists.indexOf(c) >= 0)) {
            return -5;
        }
        int bodies = letters(5).length();
        int fields = letters(4).length();
        if (bodies >= 2 || bodies == 1 && fields >= 1) {
            return -6;
        }
        return (bodies == 1 || fields >= 1) && verb != 2 && verb != 3 ? -7 : 0;
    }

    int send() {
        if (check() != 0) {
            return check();
        }
        for (Parameter p : parameters) {
            for (StringBuilder item : p.items) {
                if (!StandardCharsets.UTF_8.newEncoder().canEncode(item)) {
                    return -8;
                }
            }
        }
        for (Parameter p : parameters) {
            for (StringBuilder item : p.items) {
                if (p.kind == 3 && !item.toString().matches("([!-~]([ -~]*[!-~])?)?")) {
                    return -9;
                }
            }
        }
        String made = compose();
        if (made.length() > 1000) {
            return -10;
        }
        request = made;
        return made.length();
    }

    private String compose() {
        StringBuilder text = new StringBuilder(VERBS[verb] + " " + target() + " HTTP/1.1\r\nhost: h\r\n");
        for (Parameter p : parameters) {
            if (p.kind == 3 && !p.items.isEmpty()) {
                text.append("x-" + p.letter + ": " + String.join(", ", p.items) + "\r\n");
            }
        }
        String content = content();
        if (verb == 2 || verb == 3) {
            text.append("content-length: " + content.length() + "\r\n");
        }
        return text.append("\r\n").append(content).toString();
    }

    private String target() {
        Matcher m = EXPRESSION.matcher(template);
        String target = m.replaceAll(found -> Matcher.quoteReplacement(expand(found.group(1), found.group(2))));
        for (Parameter p : parameters) {
            if (p.kind == 2) {
                for (StringBuilder item : p.items) {
                    target += (target.contains("?") ? "&" : "?") + p.letter + "=" + encode(item.toString());
                }
            }
        }
        return target;
    }

    private String content() {
        List<String> parts = new ArrayList<>();
        for (Parameter p : parameters) {
            for (StringBuilder item : p.items) {
                if (p.kind == 5) {
                    parts.add(bytes(item.toString()));
                } else if (p.kind == 4) {
                    parts.add(p.letter + "=" + encode(item.toString()).replace("%20", "+"));
                }
            }
        }
        return String.join("&", parts);
    }

    private String expand(String operator, String variables) {
        List<String> given = new ArrayList<>();
        for (String variable : variables.split(",")) {
            Parameter p = parameters.stream()
                .filter(q -> q.inPath() && q.letter == variable.charAt(0)).findFirst().orElseThrow();
            if (!p.items.isEmpty()) {
                given.add(give(operator, variable, p.items));
            }
        }
        String start = operator.equals("+") ? "" : operator;
        return given.isEmpty() ? "" : start + String.join(breakOf(operator), given);
    }

    private static String breakOf(String operator) {
        return switch (operator) {
            case "", "+" -> ",";
            case "?" -> "&";
            default -> operator;
        };
    }

    private static String give(String operator, String variable, List<StringBuilder> items) {
        if (variable.endsWith("*")) {
            return items.stream().map(item -> give(operator, variable.substring(0, 1), List.of(item)))
                .collect(Collectors.joining(breakOf(operator)));
        }
        int most = variable.contains(":") ? variable.charAt(2) - '0' : 8;
        String joined = items.stream().map(item -> cut(item.toString(), most))
            .map(item -> operator.equals("+") ? encodeLoosely(item) : encode(item)).collect(Collectors.joining(","));
        if (!";?&".contains(operator) || operator.isEmpty()) {
            return joined;
        }
        String name = variable.substring(0, 1);
        return joined.isEmpty() && operator.equals(";") ? name : name + "=" + joined;
    }

    private static String cut(String item, int most) {
        return item.codePoints().limit(most)
            .collect(StringBuilder::new, StringBuilder::appendCodePoint, StringBuilder::append).toString();
    }

    private static String bytes(String text) {
        return new String(text.getBytes(StandardCharsets.UTF_8), StandardCharsets.ISO_8859_1);
    }

    private static String encode(String text) {
        return escape(text, Pattern.compile("[a-zA-Z0-9._~-]"));
    }

    private static String encodeLoosely(String text) {
        return escape(text, Pattern.compile("[a-zA-Z0-9._~:/?@!$&'()*+,;=-]|%(?=[0-9a-fA-F]{2})"));
    }

    private static String escape(String text, Pattern kept) {
        StringBuilder escaped = new StringBuilder();
        Matcher m = kept.matcher(text).useTransparentBounds(true);
        for (int i = 0; i < text.length(); i = text.offsetByCodePoints(i, 1)) {
            String character = text.substring(i, text.offsetByCodePoints(i, 1));
            if (m.region(i, text.length()).lookingAt()) {
                escaped.append(character);
            } else {
                bytes(character).chars().forEach(b -> escaped.append(String.format("%%%02X", b)));
            }
        }
        return escaped.toString();
    }

    private List<String> variables() {
        List<String> variables = new ArrayList<>();
        Matcher m = EXPRESSION.matcher(template);
        while (m.find()) {
            variables.addAll(List.of(m.group(2).split(",")));
        }
        return variables;
    }

    private static String letters(List<String> variables) {
        return variables.stream().map(v -> v.substring(0, 1)).collect(Collectors.joining());
    }

    private String letters(int kind) {
        return parameters.stream().filter(p -> p.kind == kind).map(p -> String.valueOf(p.letter))
            .collect(Collectors.joining());
    }
}
