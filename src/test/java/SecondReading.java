import java.nio.charset.StandardCharsets;
import java.util.ArrayList;
import java.util.Arrays;
import java.util.List;
import java.util.regex.Matcher;
import java.util.regex.Pattern;

/** A second reading of the document, written with patterns: what a cut of a tape is due to find. */
final class SecondReading {
    private static final List<String> KEPT = Arrays.asList(("and break do else elseif end false for function goto if in"
            + " local nil not or repeat return then true until while").split(" "));
    private static final List<String> OPERATORS = Arrays.asList(
            "+ - * / % ^ # & ~ | << >> // == ~= <= >= < > = ( ) { } [ ] :: ; : , . .. ...".split(" "));

    private static final Pattern LINE_END = Pattern.compile("\n\r|\r\n|\n|\r");
    private static final Pattern BLANKS = Pattern.compile("[\t\n\u000b\f\r ]+");
    private static final Pattern LONG_COMMENT = Pattern.compile("--\\[(=*)\\[(?:(?s:.*?)\\](\\1)\\]|(?s:.*))");
    private static final Pattern COMMENT = Pattern.compile("--[^\n\r]*");
    private static final Pattern NAME = Pattern.compile("[A-Za-z_][A-Za-z_0-9]*");
    private static final Pattern NUMERAL = Pattern.compile(
            "0[xX](?:[pP][+-]|[A-Za-z0-9_.])*|(?=\\.?[0-9])(?:[eE][+-]|[A-Za-z0-9_.])+");
    private static final Pattern RIGHT = Pattern.compile("(?:[0-9]+\\.?[0-9]*|\\.[0-9]+)(?:[eE][+-]?[0-9]+)?"
            + "|0[xX](?:[0-9a-fA-F]+\\.?[0-9a-fA-F]*|\\.[0-9a-fA-F]+)(?:[pP][+-]?[0-9]+)?");
    private static final Pattern LONG = Pattern.compile("\\[(=*)\\[((?s:.*?))\\]\\1\\]");
    private static final Pattern NO_LONG = Pattern.compile("\\[=+(?!\\[)");
    private static final Pattern OPEN_LONG = Pattern.compile("\\[=*\\[");
    private static final Pattern OPERATOR = Pattern.compile(
            "\\.\\.\\.|<<|>>|//|==|~=|<=|>=|::|\\.\\.|[-+*/%^#&~|<>=(){}\\[\\];:,.]");
    private static final Pattern ESCAPE = Pattern.compile(
            "\\\\(?:[abfnrtv\\\\'\"]|\n\r|\r\n|\n|\r|z[\t\n\u000b\f\r ]*|x[0-9a-fA-F]{2}|[0-9]{1,3}"
            + "|u\\{0*[0-7]?[0-9a-fA-F]{1,7}\\})");
    private static final Pattern ESCAPE_BEGUN = Pattern.compile("\\\\(?:x[0-9a-fA-F]?|u(?:\\{(?:0*[0-7]?[0-9a-fA-F]{0,7})?)?)?");

    final String tape;
    final List<int[]> words = new ArrayList<>();
    final List<String> texts = new ArrayList<>();
    int why = 0;
    int place = 0;

    SecondReading(String tape) {
        this.tape = tape;
        cutAll();
    }

    int answer() {
        return why == 0 ? words.size() : -why;
    }

    int lineOf(int there) {
        int line = 1;
        Matcher m = LINE_END.matcher(tape);
        while (m.find() && m.end() <= there) {
            line++;
        }
        return line;
    }

    private String match(Pattern pattern, int from) {
        Matcher m = pattern.matcher(tape).region(from, tape.length());
        m.useTransparentBounds(true);
        return m.lookingAt() ? m.group() : null;
    }

    private void wrong(int because, int there) {
        why = because;
        place = there;
    }

    private void cutAll() {
        int at = 0;
        while (at < tape.length() && why == 0) {
            String left = match(BLANKS, at);
            if (left != null) {
                at += left.length();
                continue;
            }
            Matcher m = LONG_COMMENT.matcher(tape).region(at, tape.length());
            if (m.lookingAt()) {
                if (m.group(2) == null) {
                    wrong(4, tape.length());
                }
                at = m.end();
                continue;
            }
            left = match(COMMENT, at);
            at = left != null ? at + left.length() : word(at);
        }
        if (why == 0) {
            place = tape.length();
        }
    }

    private int word(int at) {
        String name = match(NAME, at);
        if (name != null) {
            int kept = KEPT.indexOf(name);
            return add(kept >= 0 ? 10 + kept : 1, at, name.length(), kept >= 0 ? null : name);
        }
        String numeral = match(NUMERAL, at);
        if (numeral != null) {
            if (RIGHT.matcher(numeral).matches()) {
                return add(2, at, numeral.length(), numeral);
            }
            wrong(2, at);
            return at;
        }
        if (tape.charAt(at) == '\'' || tape.charAt(at) == '"') {
            return quoted(at);
        }
        Matcher m = LONG.matcher(tape).region(at, tape.length());
        if (m.lookingAt()) {
            String text = LINE_END.matcher(m.group(2)).replaceAll("\n");
            return add(3, at, m.group().length(), text.startsWith("\n") ? text.substring(1) : text);
        }
        if (match(OPEN_LONG, at) != null) {
            wrong(4, tape.length());
            return at;
        }
        String half = match(NO_LONG, at);
        if (half != null) {
            wrong(5, at + half.length());
            return at;
        }
        String operator = match(OPERATOR, at);
        if (operator != null) {
            return add(40 + OPERATORS.indexOf(operator), at, operator.length(), null);
        }
        wrong(1, at);
        return at;
    }

    private int add(int kind, int at, int length, String text) {
        if (text != null && !texts.contains(text)) {
            texts.add(text);
        }
        words.add(new int[] {kind, lineOf(at), at, length, texts.indexOf(text)});
        return at + length;
    }

    private int quoted(int at) {
        StringBuilder text = new StringBuilder();
        int q = at + 1;
        while (q < tape.length()) {
            char c = tape.charAt(q);
            if (c == tape.charAt(at)) {
                return add(3, at, q + 1 - at, text.toString());
            }
            if (c == '\n' || c == '\r') {
                wrong(4, q);
                return at;
            }
            if (c != '\\') {
                text.append(c);
                q++;
                continue;
            }
            String escape = match(ESCAPE, q);
            String meant = escape == null ? null : meaning(escape.substring(1));
            if (meant == null) {
                noEscape(q, escape);
                return at;
            }
            text.append(meant);
            q += escape.length();
        }
        wrong(4, tape.length());
        return at;
    }

    private void noEscape(int q, String escape) {
        if (escape != null) {
            wrong(3, q + 1);
            return;
        }
        int end = q + match(ESCAPE_BEGUN, q).length();
        wrong(end == tape.length() ? 4 : 3, end);
    }

    private static String meaning(String escape) {
        char c = escape.charAt(0);
        int plain = "abfnrtv".indexOf(c);
        if (plain >= 0) {
            return "\7\b\f\n\r\t\u000b".substring(plain, plain + 1);
        }
        if (c == 'z') {
            return "";
        }
        if (c == '\n' || c == '\r') {
            return "\n";
        }
        if (c == 'x') {
            return String.valueOf((char) Integer.parseInt(escape.substring(1), 16));
        }
        if (c == 'u') {
            return code(Long.parseLong(escape.substring(2, escape.length() - 1), 16));
        }
        if (c >= '0' && c <= '9') {
            int v = Integer.parseInt(escape);
            return v > 255 ? null : String.valueOf((char) v);
        }
        return escape;
    }

    /** The library's own bytes where it has them, and the document's words beyond. */
    private static String code(long v) {
        if (v < 0x110000 && (v < 0xd800 || v > 0xdfff)) {
            byte[] bytes = new String(Character.toChars((int) v)).getBytes(StandardCharsets.UTF_8);
            return new String(bytes, StandardCharsets.ISO_8859_1);
        }
        String bits = Long.toBinaryString(v);
        int count = v < 1L << 16 ? 3 : v < 1L << 21 ? 4 : v < 1L << 26 ? 5 : 6;
        bits = "0".repeat(5 * count + 1 - bits.length()) + bits;
        StringBuilder all = new StringBuilder();
        int cut = 7 - count;
        all.append((char) Integer.parseInt("1".repeat(count) + "0" + bits.substring(0, cut), 2));
        for (int k = cut; k < bits.length(); k += 6) {
            all.append((char) Integer.parseInt("10" + bits.substring(k, k + 6), 2));
        }
        return all.toString();
    }
}
