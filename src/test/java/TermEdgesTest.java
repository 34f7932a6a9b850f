/**
 * The edges that the document's terms name, from the tape to the texts: a test
 * for each sentence, in the document's order, with the sentence above it.
 */
public final class TermEdgesTest {
    private static final String N = "\n";
    private static final String R = "\r";
    private static final String[] LINE_ENDS = {N, R, N + R, R + N};
    private static final String BLANKS = "\t\n\u000b\f\r ";
    private static final String LETTERS = "abcdefghijklmnopqrstuvwxyzABCDEFGHIJKLMNOPQRSTUVWXYZ_";
    private static final String DIGITS = "0123456789";
    private static final String DIGITS_WITH_16 = "0123456789abcdefABCDEF";
    private static final String[] RESERVED = ("and break do else elseif end false for function goto if in local nil not"
            + " or repeat return then true until while").split(" ");
    private static final String[] OPERATORS =
            "+ - * / % ^ # & ~ | << >> // == ~= <= >= < > = ( ) { } [ ] :: ; : , . .. ...".split(" ");

    public static void main(String[] args) {
        fullTapeIsCutToItsEnd();
        placesFromZero();
        lineEnds();
        lineOfAPlace();
        bytesOfEachSort();
        digitsWith16();
        emptyCutting();
        cuttingToTheEnd();
        commentToBeforeTheLineEnd();
        commentInALongBracket();
        neverTwoOperators();
        anyNumberOfEqualSigns();
        firstClosing();
        lineEndBehindTheOpening();
        tenForEachLineEnd();
        asManyLettersAndDigits();
        reservedNames();
        numeralBegins();
        numeralGoesOn();
        signBehindItsLetter();
        rightNumerals();
        rightNumeralsWith16();
        nextSameQuote();
        lineEndsOnlyByEscapes();
        escapesOfOneByte();
        escapedLineEnd();
        nothingWithAllBlanks();
        twoDigitsWith16();
        oneToThreeDigits();
        numberBelow2To31();
        bytesThatAreEnough();
        longestOperator();
        wordsWithAText();
        eachDifferentRowOnce();
        Check.end();
    }

    private static boolean isIn(String set, char c) {
        return set.indexOf(c) >= 0;
    }

    private static String times(String part, int count) {
        return part.repeat(count);
    }

    /** "THE TAPE has at most 65536 bytes": more calls than are promised are needed to fill it. */
    private static void fullTapeIsCutToItsEnd() {
        int limit = 65536;
        Check.textDue("'" + times("a", limit - 2) + "'", 3, times("a", limit - 2));
        Check.textDue("[[" + times("b", limit - 4) + "]]", 3, times("b", limit - 4));
        Check.textDue(times("c", limit), 1, times("c", limit));
        Check.textDue(times("7", limit), 2, times("7", limit));
        Check.kindsDue(times(" ", limit), "");
        Check.kindsDue(times(" ", limit - 1) + "+", "40 ");
        Check.kindsDue(times(" ", limit - 3) + "...", "72 ");
        Check.kindsDue("--" + times("c", limit - 2), "");
        Check.kindsDue("--[[" + times("c", limit - 6) + "]]", "");
        Check.wrongDue(times(N, limit - 1) + "!", 1, limit - 1, limit, 0);
        Check.wrongDue(times(N, limit - 2) + "3x", 2, limit - 2, limit - 1, 0);
        Check.wrongDue("'" + times("a", limit - 1), 4, limit, 1, 0);
        Check.wrongDue("[[" + times(N, limit - 2), 4, limit, limit - 1, 0);
        Check.wrongDue("--[[" + times(R, limit - 4), 4, limit, limit - 3, 0);
        Check.wrongDue("[" + times("=", limit - 1), 5, limit, 1, 0);
    }

    /** "PLACES in it are numbered from 0." */
    private static void placesFromZero() {
        for (String tape : new String[] {"a", "1", ".5", "'a'", "[[a]]", "[=[a]=]", "+", "...", "["}) {
            Check.due("begin(0) of " + tape, Check.cutOf(tape).begin(0), 0);
            Check.due("begin(0) of a blank and " + tape, Check.cutOf(" " + tape).begin(0), 1);
        }
        Check.wrongDue("!", 1, 0, 0);
        Check.wrongDue(" !", 1, 1, 0);
        Check.wrongDue("3x", 2, 0, 0);
        Check.wrongDue(" 3x", 2, 1, 0);
    }

    /** "A LINE END is a byte 10 or 13, or 10 13 or 13 10 together (from the left, the longest way)." */
    private static void lineEnds() {
        lineEndsDue("", 0);
        for (String one : LINE_ENDS) {
            lineEndsDue(one, 1);
        }
        for (String two : new String[] {N + N, R + R, N + N + R, N + R + N, N + R + R, R + N + N, R + N + R, R + R + N,
            N + R + N + R, N + R + R + N, R + N + N + R, R + N + R + N}) {
            lineEndsDue(two, 2);
        }
        for (String three : new String[] {N + N + N, R + R + R, N + N + R + R, R + R + N + N, N + N + N + R,
            R + R + R + N, N + R + R + R, R + N + N + N, N + R + N + R + N, R + N + R + N + R}) {
            lineEndsDue(three, 3);
        }
        for (String other : new String[] {"\u000b", "\f", "\t", " "}) {
            lineEndsDue(other, 0);
            lineEndsDue(N + other + R, 2);
            lineEndsDue(R + other + N, 2);
        }
    }

    /** So many line ends, wherever they are. */
    private static void lineEndsDue(String blanks, int count) {
        String told = Check.shown(blanks);
        Check.due("wrongLine() of " + told, Check.cutOf(blanks).wrongLine(), 1 + count);
        Check.due("line of a word behind " + told, Check.cutOf(blanks + "x").line(0), 1 + count);
        Check.due("line of a wrong byte behind " + told, Check.cutOf("x" + blanks + "!").wrongLine(), 1 + count);
        Check.due("line behind a long text of " + told, Check.cutOf("[[" + blanks + "]]x").line(1), 1 + count);
        Check.due("line behind a comment of " + told, Check.cutOf("--[[" + blanks + "]]x").line(0), 1 + count);
        if (count > 0) {
            Check.due("line behind -- and " + told, Check.cutOf("--" + blanks + "x").line(0), 1 + count);
        }
        Check.due("line behind \\z and " + told, Check.cutOf("'\\z" + blanks + "'x").line(1), 1 + count);
    }

    /** "The line of a place is 1 and the number of line ends that are before it." */
    private static void lineOfAPlace() {
        Check.due("line of place 0", Check.cutOf("x").line(0), 1);
        Check.due("wrongLine() of place 0", Check.cutOf("!").wrongLine(), 1);
        for (String end : LINE_ENDS) {
            ChunkWords x = Check.cutOf("a" + end + "b " + end + end + "c");
            Check.due("line before a line end", x.line(0), 1);
            Check.due("line just behind it", x.line(1), 2);
            Check.due("line behind two more", x.line(2), 4);
            // a place where a line end is has that one not before it
            Check.wrongDue("'a" + end + "'", 4, 2, 1, 0);
            Check.wrongDue(end + "'a" + end + "'", 4, end.length() + 2, 2, 0);
            Check.wrongDue("'\\x" + end + "'", 3, 3, 1, 0);
            Check.wrongDue("[=" + end, 5, 2, 1, 0);
            Check.wrongDue("[[" + end, 4, 2 + end.length(), 2, 0);
        }
        ChunkWords x = Check.cutOf("[[\n\n]] 'a\\\n\\z\n' b");
        Check.due("line of a word's first byte", x.line(0), 1);
        Check.due("line of the next one's", x.line(1), 3);
        Check.due("line behind two escapes", x.line(2), 5);
    }

    /**
     * "BLANKS are the bytes 9, 10, 11, 12, 13, 32. LETTERS are a .. z, A .. Z
     * and _; DIGITS 0 .. 9": each of the 256 bytes between two names.
     */
    private static void bytesOfEachSort() {
        for (char c = 0; c < 256; c++) {
            String tape = "x" + c + "y";
            if (isIn(BLANKS, c)) {
                Check.kindsDue(tape, "1 1 ");
                Check.due("begin(1) of " + Check.shown(tape), Check.cutOf(tape).begin(1), 2);
            } else if (isIn(LETTERS + DIGITS, c)) {
                Check.textDue(tape, 1, tape);
            } else if (c == '\'' || c == '"') {
                Check.wrongDue(tape, 4, 3, 1);
            } else if (kindOf("" + c) > 0) {
                Check.kindsDue(tape, "1 " + kindOf("" + c) + " 1 ");
            } else {
                Check.wrongDue(tape, 1, 1, 1);
            }
            if (isIn(DIGITS, c)) {
                Check.kindsDue("" + c, "2 ");
            } else if (isIn(LETTERS, c)) {
                Check.kindsDue("" + c, "1 ");
            }
        }
    }

    private static int kindOf(String operator) {
        for (int k = 0; k < OPERATORS.length; k++) {
            if (OPERATORS[k].equals(operator)) {
                return 40 + k;
            }
        }
        return 0;
    }

    /** "DIGITS 0 .. 9, those with 16 also a .. f and A .. F": each of the 256 bytes where such a digit may be. */
    private static void digitsWith16() {
        for (char c = 0; c < 256; c++) {
            int value = Character.digit(c, 16);
            if (isIn(DIGITS_WITH_16, c)) {
                Check.textDue("'\\x" + c + "1'", 3, "" + (char) (16 * value + 1));
                Check.textDue("'\\x1" + c + "'", 3, "" + (char) (16 + value));
                Check.textDue("'\\u{" + c + "}'", 3, "" + (char) value);
                Check.textDue("'\\u{1" + c + "}'", 3, "" + (char) (16 + value));
                Check.textDue("0x" + c, 2, "0x" + c);
                Check.textDue("0x1." + c + "p1", 2, "0x1." + c + "p1");
            } else {
                Check.wrongDue("'\\x" + c + "1'", 3, 3, 0);
                Check.wrongDue("'\\x1" + c + "'", 3, 4, 0);
                Check.wrongDue("'\\u{" + c + "1}'", 3, 4, 0);
                Check.wrongDue("0x" + c, 2, 0, 0);
            }
        }
        Check.wrongDue("'\\u{1g}'", 3, 5, 0);
        Check.wrongDue("0x1pf", 2, 0, 0);
        Check.wrongDue("1f", 2, 0, 0);
        Check.wrongDue("1ef", 2, 0, 0);
    }

    /** "Blanks and COMMENTS are left out": a tape with nothing else, and the empty one, have no word. */
    private static void emptyCutting() {
        for (String tape : new String[] {"", " ", BLANKS, "--", "--\n", "--[[]]", " --a\n--[[b]] --[=[\n]=]\t"}) {
            Check.kindsDue(tape, "");
            ChunkWords x = Check.cutOf(tape);
            Check.due("texts of " + Check.shown(tape), x.texts(), 0);
            Check.due("place of " + Check.shown(tape), x.place(), tape.length());
        }
        Check.kindsDue("a--[[b]]c", "1 1 ");
        Check.kindsDue("1--[[b]]2", "2 2 ");
        Check.kindsDue(".--[[b]].", "70 70 ");
    }

    /** "then it goes on behind it, to the tape's end": a word of each sort just behind another, and at the end. */
    private static void cuttingToTheEnd() {
        String[] words = {"ab", "and", "12", ".5", "'a'", "\"b\"", "[[c]]", "[=[d]=]", "+", "==", "...", "]"};
        int[] kinds = {1, 10, 2, 2, 3, 3, 3, 3, 40, 53, 72, 65};
        for (int i = 0; i < words.length; i++) {
            for (int k = 0; k < words.length; k++) {
                ChunkWords x = Check.cutOf(words[i] + " " + words[k]);
                String told = words[i] + " " + words[k];
                Check.due("kinds of " + told, Check.kinds(x), kinds[i] + " " + kinds[k] + " ");
                Check.due("begin(1) of " + told, x.begin(1), words[i].length() + 1);
                Check.due("length(0) of " + told, x.length(0), words[i].length());
                Check.due("length(1) of " + told, x.length(1), words[k].length());
            }
        }
        ChunkWords x = Check.cutOf("'a''b'\"c\"[[d]][=[e]=]+(f)");
        Check.due("kinds without blanks", Check.kinds(x), "3 3 3 3 3 40 60 1 61 ");
        int[] begins = {0, 3, 6, 9, 14, 21, 22, 23, 24};
        for (int i = 0; i < begins.length; i++) {
            Check.due("begin(" + i + ") without blanks", x.begin(i), begins[i]);
        }
    }

    /** "A COMMENT: --, .. else to before the next line end (or the tape's end)." */
    private static void commentToBeforeTheLineEnd() {
        for (String end : LINE_ENDS) {
            ChunkWords x = Check.cutOf("--" + end + "a");
            Check.due("words behind -- and a line end", x.words(), 1);
            Check.due("line behind -- and a line end", x.line(0), 2);
            x = Check.cutOf("a--!" + end + "b");
            Check.due("words round a comment", x.words(), 2);
            Check.due("line behind a comment", x.line(1), 2);
            Check.due("begin behind a comment", x.begin(1), 4 + end.length());
            Check.kindsDue("--[[a]]b" + end + "c", "1 1 ");
        }
        for (String other : new String[] {"\u000b", "\f", "\t", " ", "\0", "\u00ff", "'", "]]", "--", "\\"}) {
            Check.kindsDue("--a" + other + "b", "");
            Check.kindsDue("--a" + other + "b\nc", "1 ");
        }
        for (String open : new String[] {"[", "[=", "[==", "[=a[", "[ [", "[= [", " [[", "=[", "]]", "-[[", "[a["}) {
            Check.kindsDue("--" + open, "");
            Check.kindsDue("--" + open + " a\nb", "1 ");
        }
    }

    /** "A COMMENT: -- and, if a long bracket opens just there, to where that one closes." */
    private static void commentInALongBracket() {
        for (int k = 0; k <= 3; k++) {
            String signs = times("=", k);
            String open = "--[" + signs + "[";
            String close = "]" + signs + "]";
            Check.kindsDue(open + close, "");
            Check.kindsDue(open + close + "a", "1 ");
            Check.kindsDue(open + "\n! ' ]" + signs + "=]\r]" + signs + " " + close + "a", "1 ");
            Check.due("begin behind a comment", Check.cutOf(open + "\n" + close + "a").begin(0), 7 + 2 * k);
            Check.kindsDue(open + close + close, k == 0 ? "65 65 " : k == 1 ? "65 59 65 " : k == 2 ? "65 53 65 "
                    : "65 53 59 65 ");
            Check.wrongDue(open, 4, 4 + k, 0);
            Check.wrongDue(open + "]" + signs, 4, 5 + 2 * k, 0);
            Check.wrongDue(open + "]" + signs + "=]", 4, 7 + 2 * k, 0);
        }
        Check.due("texts of comments", Check.cutOf("--[[a]]--[=[b]=]--c").texts(), 0);
    }

    /** "(-- is never two operators.)" */
    private static void neverTwoOperators() {
        Check.kindsDue("-", "41 ");
        Check.kindsDue("--", "");
        Check.kindsDue("---", "");
        Check.kindsDue("----", "");
        Check.kindsDue("a--b", "1 ");
        Check.kindsDue("a - -b", "1 41 41 1 ");
        Check.kindsDue("-+--", "41 40 ");
    }

    /** "A LONG BRACKET opens with [, any number of =, and [; it closes with the first ], as many =, and ]." */
    private static void anyNumberOfEqualSigns() {
        for (int k : new int[] {0, 1, 2, 3, 4, 7, 8, 15, 16, 31, 32, 63, 64, 65, 127, 128, 255, 256, 257, 1000, 2000}) {
            String open = "[" + times("=", k) + "[";
            String close = "]" + times("=", k) + "]";
            String more = "]" + times("=", k + 1) + "]";
            String fewer = k > 0 ? "]" + times("=", k - 1) + "]" : "]";
            Check.textDue(open + close, 3, "");
            String inside = "a" + more + "b" + fewer + "c" + open;
            Check.textDue(open + inside + close, 3, inside);
            Check.wrongDue(open + more, 4, 2 * k + 5, 0);
            Check.wrongDue(open + fewer, 4, open.length() + fewer.length(), 0);
            Check.wrongDue(open + close.substring(0, k + 1), 4, 2 * k + 3, 0);
        }
    }

    /** "it closes with the first ], as many =, and ] behind that." */
    private static void firstClosing() {
        Check.kindsDue("[[a]]]]", "3 65 65 ");
        Check.kindsDue("[[a]]b]]", "3 1 65 65 ");
        Check.kindsDue("[=[a]=]=]", "3 59 65 ");
        Check.textDue("[=[]]=]", 3, "]");
        Check.textDue("[=[]==]=]", 3, "]==");
        Check.textDue("[==[]=]==]", 3, "]=");
        Check.textDue("[[[]]", 3, "[");
        Check.textDue("[[]=]]", 3, "]=");
        Check.textDue("[=[[[]]]=]", 3, "[[]]");
        // what opens cannot close, too
        Check.wrongDue("[=[=]", 4, 5, 0);
        Check.wrongDue("[[]", 4, 3, 0);
    }

    /** "What is between is its text, but without a line end just behind the opening." */
    private static void lineEndBehindTheOpening() {
        for (int k = 0; k <= 2; k++) {
            String open = "[" + times("=", k) + "[";
            String close = "]" + times("=", k) + "]";
            for (String end : LINE_ENDS) {
                Check.textDue(open + end + close, 3, "");
                Check.textDue(open + end + "a" + close, 3, "a");
                Check.textDue(open + end + end + close, 3, "\n");
                Check.textDue(open + " " + end + close, 3, " \n");
                Check.textDue(open + "a" + end + close, 3, "a\n");
            }
            Check.textDue(open + "\n\n" + close, 3, "\n");
            Check.textDue(open + "\r\r" + close, 3, "\n");
            Check.textDue(open + "\n\r\n" + close, 3, "\n");
            Check.textDue(open + "\r\n\r" + close, 3, "\n");
            Check.textDue(open + "\n\n\r" + close, 3, "\n");
            Check.textDue(open + "\u000b" + close, 3, "\u000b");
        }
    }

    /** "and with 10 for each line end" */
    private static void tenForEachLineEnd() {
        for (String end : LINE_ENDS) {
            Check.textDue("[[a" + end + "b]]", 3, "a\nb");
            Check.textDue("[=[a" + end + "b" + end + "]=]", 3, "a\nb\n");
            Check.textDue("[[a" + end + end + "b]]", 3, "a\n\nb");
            Check.textDue("[[a" + end + " " + end + "]]", 3, "a\n \n");
        }
        Check.textDue("[[a\n\n\rb\r\r\nc]]", 3, "a\n\nb\n\nc");
        Check.textDue("[[a\n\r\nb\r\n\rc]]", 3, "a\n\nb\n\nc");
        Check.textDue("[[a\u000b\f\tb\\n\\\n]]", 3, "a\u000b\f\tb\\n\\\n");
    }

    /** "A NAME (kind 1): a letter, and as many letters and digits as follow." */
    private static void asManyLettersAndDigits() {
        for (char c : LETTERS.toCharArray()) {
            Check.textDue("" + c, 1, "" + c);
            Check.textDue(c + "9" + c, 1, c + "9" + c);
        }
        for (int size : new int[] {1, 2, 7, 8, 9, 15, 16, 17, 63, 64, 65, 1000, 4000}) {
            Check.textDue(times("q", size), 1, times("q", size));
            Check.textDue("_" + times("0", size - 1), 1, "_" + times("0", size - 1));
        }
        Check.kindsDue("a.b", "1 70 1 ");
        Check.kindsDue("a1.b", "1 70 1 ");
        Check.kindsDue("1 a", "2 1 ");
        Check.kindsDue("a+1", "1 40 2 ");
        Check.kindsDue("e+1", "1 40 2 ");
        Check.kindsDue("a[1]", "1 64 2 65 ");
    }

    /** "If it is one of these, its kind is 10, 11, .. 31 in this order" */
    private static void reservedNames() {
        Check.due("how many they are", RESERVED.length, 22);
        for (int k = 0; k < RESERVED.length; k++) {
            String name = RESERVED[k];
            String shorter = name.substring(0, name.length() - 1);
            String capital = name.substring(0, 1).toUpperCase() + name.substring(1);
            Check.kindsDue(name, 10 + k + " ");
            Check.kindsDue("x " + name + " y", "1 " + (10 + k) + " 1 ");
            Check.kindsDue("(" + name + ")", "60 " + (10 + k) + " 61 ");
            for (String other : new String[] {shorter, shorter + "_", name + "_", name + "0", name + name, "_" + name,
                capital, shorter + Character.toUpperCase(name.charAt(name.length() - 1)), "xxxxxxxx" + name}) {
                Check.textDue(other, 1, other);
            }
        }
    }

    /** "A NUMERAL (kind 2) begins with a digit, or a . and a digit." */
    private static void numeralBegins() {
        for (char c = 0; c < 256; c++) {
            if (isIn(DIGITS, c)) {
                Check.textDue("" + c, 2, "" + c);
                Check.textDue("." + c, 2, "." + c);
                Check.kindsDue(".. ." + c, "71 2 ");
            } else {
                Check.due("kind(0) of a point and byte " + (int) c, Check.cutOf("." + c).kind(0), c == '.' ? 71 : 70);
            }
        }
        Check.kindsDue(".", "70 ");
        Check.kindsDue("..1", "71 2 ");
        Check.kindsDue("...1", "72 2 ");
        Check.kindsDue("....1", "72 2 ");
        Check.kindsDue(".....1", "72 71 2 ");
        Check.kindsDue(". 1", "70 2 ");
        Check.kindsDue(".e1", "70 1 ");
        Check.kindsDue("-1", "41 2 ");
        Check.kindsDue("+.1", "40 2 ");
    }

    /** "It goes on as long as letters, digits and . follow": each of the 256 bytes behind a digit. */
    private static void numeralGoesOn() {
        for (char c = 0; c < 256; c++) {
            String tape = "1" + c + "1";
            if (isIn(DIGITS + ".eE", c)) {
                Check.textDue(tape, 2, tape);
            } else if (isIn(LETTERS, c)) {
                Check.wrongDue(tape, 2, 0, 0);
            } else {
                ChunkWords x = Check.cutOf(tape);
                Check.due("kind(0) of " + Check.shown(tape), x.kind(0), 2);
                Check.due("length(0) of " + Check.shown(tape), x.length(0), 1);
            }
        }
        for (int size : new int[] {1, 2, 8, 9, 64, 65, 4000}) {
            Check.textDue(times("0", size), 2, times("0", size));
            Check.textDue("0x" + times("f", size), 2, "0x" + times("f", size));
        }
        Check.wrongDue("1..2", 2, 0, 0);
        Check.wrongDue("1...", 2, 0, 0);
        Check.wrongDue("1_0", 2, 0, 0);
        Check.wrongDue("1and 2", 2, 0, 0);
        Check.kindsDue("1 ..2", "2 71 2 ");
    }

    /** "and also a + or - just behind an e or E (but behind a p or P, if it begins with 0x or 0X)" */
    private static void signBehindItsLetter() {
        for (char sign : new char[] {'+', '-'}) {
            String operator = sign == '+' ? "40 " : "41 ";
            for (char c : (DIGITS + ".").toCharArray()) {
                Check.kindsDue("1" + c + sign + "1", "2 " + operator + "2 ");
            }
            for (char c : (DIGITS_WITH_16 + ".").toCharArray()) {
                Check.kindsDue("0x1" + c + sign + "1", "2 " + operator + "2 ");
                Check.kindsDue("0X1" + c + sign + "1", "2 " + operator + "2 ");
            }
            for (String begun : new String[] {"1e", "1E", ".5e", "5.E", "0e", "00E", "0x1p", "0x1P", "0X1p", "0X.8P",
                "0xep"}) {
                Check.textDue(begun + sign + "1", 2, begun + sign + "1");
                Check.kindsDue(begun + sign + "1" + sign + "1", "2 " + operator + "2 ");
                Check.kindsDue(begun + "1" + sign + "1", "2 " + operator + "2 ");
                Check.wrongDue(begun + sign, 2, 0, 0);
                Check.wrongDue(begun + sign + sign + "1", 2, 0, 0);
                Check.wrongDue(begun + sign + "1x", 2, 0, 0);
            }
            // one more of the same letter takes its sign, too, but is not right
            Check.wrongDue("1e1e" + sign + "1", 2, 0, 0);
            Check.wrongDue("0x1p1p" + sign + "1", 2, 0, 0);
        }
        Check.kindsDue("3e5 +1", "2 40 2 ");
        Check.kindsDue("1*e+1", "2 42 1 40 2 ");
    }

    /** "RIGHT when it is digits with at most one . (at least one digit), and perhaps e or E, .. (at least one)" */
    private static void rightNumerals() {
        for (String right : new String[] {"0", "1", "9", "00", "08", "1.", ".1", "1.1", "0.", ".0", "00.00"}) {
            Check.textDue(right, 2, right);
            for (String more : new String[] {"e1", "E1", "e+1", "e-1", "E+09", "E-00", "e0123456789"}) {
                Check.textDue(right + more, 2, right + more);
            }
            for (String more : new String[] {"..", ".x", "x", "_", "e", "E", "e+", "E-", "e.1", "e1.", "e1e1", "p1", "ea",
                "e+e", "e+.1", "f", "L", "e1_"}) {
                Check.wrongDue(right + more, 2, 0, 0);
            }
        }
        Check.wrongDue("1.1.", 2, 0, 0);
        Check.wrongDue("1..", 2, 0, 0);
        Check.wrongDue(".1.1", 2, 0, 0);
        Check.kindsDue(".", "70 ");
        Check.kindsDue(".e1", "70 1 ");
    }

    /** "or 0x or 0X and digits with 16 likewise, and perhaps p or P, perhaps + or -, and digits." */
    private static void rightNumeralsWith16() {
        for (String begun : new String[] {"0x", "0X"}) {
            for (String digits : new String[] {"0", "9", "a", "f", "A", "F", "e", "E", "1.", ".1", "a.F", ".e", "0.0"}) {
                Check.textDue(begun + digits, 2, begun + digits);
                for (String more : new String[] {"p1", "P1", "p+1", "p-1", "P+09", "P-00", "p0123456789"}) {
                    Check.textDue(begun + digits + more, 2, begun + digits + more);
                }
                for (String more : new String[] {"..", "g", "G", "x1", "_", "p", "P", "p+", "P-", "p.1", "p1.", "p1p1", "pa",
                    "p1a", "p+f", "p+.1"}) {
                    Check.wrongDue(begun + digits + more, 2, 0, 0);
                }
            }
            for (String none : new String[] {"", ".", "p1", ".p1", "P+1", "..", ".1.", "1.1.", "1..1", "x", "g"}) {
                Check.wrongDue(begun + none, 2, 0, 0);
            }
        }
        for (String other : new String[] {"00x1", "1x1", "0.x1", ".0x1", "0xx1", "0_x1"}) {
            Check.wrongDue(other, 2, 0, 0);
        }
        Check.kindsDue("0 x1", "2 1 ");
    }

    /** "it begins with ' or \", and ends with the next same one that is not part of an escape" */
    private static void nextSameQuote() {
        for (String quote : new String[] {"'", "\""}) {
            String other = quote.equals("'") ? "\"" : "'";
            Check.textDue(quote + quote, 3, "");
            Check.textDue(quote + other + quote, 3, other);
            Check.textDue(quote + "\\" + quote + quote, 3, quote);
            Check.textDue(quote + "\\\\" + quote, 3, "\\");
            Check.textDue(quote + "\\\\\\" + quote + quote, 3, "\\" + quote);
            Check.textDue(quote + "[[--" + quote, 3, "[[--");
            Check.kindsDue(quote + quote + quote + quote, "3 3 ");
            Check.kindsDue(quote + "a" + quote + "b", "3 1 ");
            Check.kindsDue(quote + "\\\\" + quote + "b", "3 1 ");
            Check.wrongDue(quote, 4, 1, 0);
            Check.wrongDue(quote + other, 4, 2, 0);
            Check.wrongDue(quote + "\\" + quote, 4, 3, 0);
            Check.wrongDue(quote + quote + quote, 4, 3, 1);
        }
        for (char c = 0; c < 256; c++) {
            if (!isIn("'\\\n\r", c)) {
                Check.textDue("'" + c + "'", 3, "" + c);
            }
        }
    }

    /** "no line end may be in it, but by escapes" */
    private static void lineEndsOnlyByEscapes() {
        for (String end : LINE_ENDS) {
            Check.wrongDue("'" + end + "'", 4, 1, 1, 0);
            Check.wrongDue("\"ab" + end + "\"", 4, 3, 1, 0);
            Check.wrongDue("'a\\" + end + end + "'", 4, 3 + end.length(), 2, 0);
            Check.textDue("'a\\" + end + "'", 3, "a\n");
            Check.textDue("'a\\z" + end + end + "'", 3, "a");
            Check.textDue("'a\\" + end + "\\" + end + "'", 3, "a\n\n");
        }
    }

    /** "behind it: a, b, f, n, r, t, v are the bytes ..; a backslash, ' or \" that one": each of the 256 bytes. */
    private static void escapesOfOneByte() {
        String letters = "abfnrtv\\'\"";
        String bytes = "\7\b\f\n\r\t\u000b\\'\"";
        for (char c = 0; c < 256; c++) {
            String tape = "'\\" + c + "'";
            if (isIn(letters, c)) {
                Check.textDue(tape, 3, bytes.substring(letters.indexOf(c), letters.indexOf(c) + 1));
            } else if (isIn(DIGITS, c)) {
                Check.textDue(tape, 3, "" + (char) (c - '0'));
            } else if (c == '\n' || c == '\r') {
                Check.textDue(tape, 3, "\n");
            } else if (c == 'z') {
                Check.textDue(tape, 3, "");
            } else {
                Check.wrongDue(tape, 3, c == 'x' || c == 'u' ? 3 : 2, 0);
            }
        }
    }

    /** "a line end 10" */
    private static void escapedLineEnd() {
        for (String end : LINE_ENDS) {
            Check.textDue("'\\" + end + "'", 3, "\n");
            Check.textDue("'a\\" + end + "b'", 3, "a\nb");
            Check.due("line behind it", Check.cutOf("'\\" + end + "'x").line(1), 2);
            Check.due("length of it", Check.cutOf("'\\" + end + "'x").length(0), 3 + end.length());
        }
        Check.wrongDue("'\\\n\n'", 4, 3, 2, 0);
        Check.wrongDue("'\\\r\r'", 4, 3, 2, 0);
        Check.wrongDue("'\\\n\r\n'", 4, 4, 2, 0);
        Check.wrongDue("'\\\r\n\r'", 4, 4, 2, 0);
    }

    /** "z nothing, with all blanks behind it" */
    private static void nothingWithAllBlanks() {
        Check.textDue("'\\z'", 3, "");
        Check.textDue("'a\\zb'", 3, "ab");
        Check.textDue("'a\\z" + BLANKS + BLANKS + "b'", 3, "ab");
        Check.textDue("'\\z \\z \\z'", 3, "");
        Check.textDue("'\\z a b'", 3, "a b");
        Check.textDue("'\\z\\\n'", 3, "\n");
        for (char c = 0; c < 256; c++) {
            if (isIn(BLANKS, c)) {
                Check.textDue("'\\z" + c + "'", 3, "");
                Check.textDue("'\\z" + c + c + "a'", 3, "a");
            } else if (!isIn("'\\", c)) {
                Check.textDue("'\\z" + c + "'", 3, "" + c);
            }
        }
        Check.wrongDue("'\\z \n", 4, 5, 2, 0);
        Check.wrongDue("'\\z a\n'", 4, 5, 1, 0);
    }

    /** "x and two digits with 16 that byte" */
    private static void twoDigitsWith16() {
        for (int v = 0; v < 256; v++) {
            Check.textDue(String.format("'\\x%02x'", v), 3, "" + (char) v);
            Check.textDue(String.format("'\\x%02X'", v), 3, "" + (char) v);
        }
        Check.textDue("'\\x414'", 3, "A4");
        Check.textDue("'\\x000'", 3, "\0" + "0");
        Check.wrongDue("'\\x'", 3, 3, 0);
        Check.wrongDue("'\\x4'", 3, 4, 0);
        Check.wrongDue("'\\x4g'", 3, 4, 0);
        Check.wrongDue("'\\X41'", 3, 2, 0);
    }

    /** "one to three digits (as many as there are) that byte, 255 at most" */
    private static void oneToThreeDigits() {
        for (int v = 0; v < 1000; v++) {
            String three = String.format("'\\%03d'", v);
            if (v < 256) {
                Check.textDue(three, 3, "" + (char) v);
                Check.textDue("'\\" + v + "'", 3, "" + (char) v);
                Check.textDue("'\\" + v + "a'", 3, (char) v + "a");
            } else {
                Check.wrongDue(three, 3, 2, 0);
                Check.wrongDue("'ab\\n" + three.substring(1), 3, 6, 0);
            }
        }
        Check.textDue("'\\2550'", 3, "\u00ff0");
        Check.textDue("'\\0000'", 3, "\0" + "0");
        Check.textDue("'\\1\\12\\123'", 3, "\1\f{");
        Check.textDue("'\\25 6'", 3, "\u0019 6");
        Check.wrongDue("'\\2560'", 3, 2, 0);
    }

    /** "u, {, one or more digits with 16, and }: a number v below 2^31" */
    private static void numberBelow2To31() {
        String largest = "\u00fd\u00bf\u00bf\u00bf\u00bf\u00bf";
        for (int zeros : new int[] {0, 1, 2, 7, 8, 9, 30, 1000}) {
            String before = "'\\u{" + times("0", zeros);
            int first = before.length();
            Check.textDue(before + "7fffffff}'", 3, largest);
            Check.textDue(before + "7FFFFFFF}'", 3, largest);
            Check.textDue(before + "1}'", 3, "\1");
            Check.wrongDue(before + "80000000}'", 3, first + 7, 0);
            Check.wrongDue(before + "ffffffff}'", 3, first + 7, 0);
            Check.wrongDue(before + "ffffffffffffffff}'", 3, first + 7, 0);
            Check.wrongDue(before + "100000000}'", 3, first + 8, 0);
            Check.wrongDue(before + "7fffffff0}'", 3, first + 8, 0);
            Check.wrongDue(before + "10000000000000000}'", 3, first + 8, 0);
        }
        Check.textDue("'\\u{0}'", 3, "\0");
        Check.textDue("'\\u{00}'", 3, "\0");
        Check.textDue("'\\u{41}}'", 3, "A}");
        Check.wrongDue("'\\u{}'", 3, 4, 0);
        Check.wrongDue("'\\u{'", 3, 4, 0);
        Check.wrongDue("'\\u{41'", 3, 6, 0);
        Check.wrongDue("'\\u{41]'", 3, 6, 0);
        Check.wrongDue("'\\u{ 41}'", 3, 4, 0);
        Check.wrongDue("'\\u41'", 3, 3, 0);
        Check.wrongDue("'\\u'", 3, 3, 0);
        Check.wrongDue("'\\U{41}'", 3, 2, 0);
    }

    /** "as one byte when it is below 128, else as the first of 2 .. 6 bytes that are enough: .." */
    private static void bytesThatAreEnough() {
        codeDue("7f", "7f");
        codeDue("80", "c280");
        codeDue("7ff", "dfbf");
        codeDue("800", "e0a080");
        codeDue("ffff", "efbfbf");
        codeDue("10000", "f0908080");
        codeDue("1fffff", "f7bfbfbf");
        codeDue("200000", "f888808080");
        codeDue("3ffffff", "fbbfbfbfbf");
        codeDue("4000000", "fc8480808080");
        codeDue("7fffffff", "fdbfbfbfbfbf");
        for (int k = 0; k < 31; k++) {
            int v = 1 << k;
            for (int one : new int[] {v - 1, v, v | 1, v | v >> 1, 0x55555555 & (v - 1) | v, 0x2aaaaaaa & (v - 1) | v}) {
                codeDue(Integer.toHexString(one), bytesOf(one));
            }
        }
    }

    private static void codeDue(String number, String wantInHex) {
        StringBuilder want = new StringBuilder();
        for (int k = 0; k < wantInHex.length(); k += 2) {
            want.append((char) Integer.parseInt(wantInHex.substring(k, k + 2), 16));
        }
        Check.textDue("'\\u{" + number + "}'", 3, want.toString());
    }

    /** The document's words, with texts of 0s and 1s. */
    private static String bytesOf(int v) {
        String bits = Integer.toBinaryString(v);
        if (bits.length() <= 7) {
            return String.format("%02x", v);
        }
        int count = 2;
        while (bits.length() > 6 * (count - 1) + 7 - count) {
            count++;
        }
        bits = times("0", 6 * (count - 1) + 7 - count - bits.length()) + bits;
        int first = 7 - count;
        StringBuilder all = new StringBuilder();
        all.append(String.format("%02x", Integer.parseInt(times("1", count) + "0" + bits.substring(0, first), 2)));
        for (int k = first; k < bits.length(); k += 6) {
            all.append(String.format("%02x", 128 + Integer.parseInt(bits.substring(k, k + 6), 2)));
        }
        return all.toString();
    }

    /** "An OPERATOR, the longest that there is": each alone, and all rows of two and three of their bytes. */
    private static void longestOperator() {
        String bytes = "+-*/%^#&~|<>=(){}[];:,.";
        Check.due("how many operators there are", OPERATORS.length, 33);
        for (int k = 0; k < OPERATORS.length; k++) {
            Check.kindsDue(OPERATORS[k], 40 + k + " ");
            Check.due("length of " + OPERATORS[k], Check.cutOf(OPERATORS[k]).length(0), OPERATORS[k].length());
        }
        for (char a : bytes.toCharArray()) {
            for (char b : bytes.toCharArray()) {
                operatorsDue("" + a + b);
                for (char c : bytes.toCharArray()) {
                    operatorsDue("" + a + b + c);
                }
            }
        }
        rowsOfFour("~<>=.:/");
    }

    private static void rowsOfFour(String bytes) {
        int count = bytes.length();
        for (int k = 0; k < count * count * count * count; k++) {
            StringBuilder tape = new StringBuilder();
            for (int rest = k, place = 0; place < 4; rest /= count, place++) {
                tape.append(bytes.charAt(rest % count));
            }
            operatorsDue(tape.toString());
        }
    }

    /** Where no comment and no long bracket begins, the longest that there is, one behind the other. */
    private static void operatorsDue(String tape) {
        if (tape.contains("--") || tape.contains("[[") || tape.contains("[=")) {
            return;
        }
        StringBuilder want = new StringBuilder();
        int at = 0;
        while (at < tape.length()) {
            String longest = "";
            for (String one : OPERATORS) {
                if (tape.startsWith(one, at) && one.length() > longest.length()) {
                    longest = one;
                }
            }
            want.append(kindOf(longest)).append(' ');
            at += longest.length();
        }
        Check.kindsDue(tape, want.toString());
    }

    /** "A text, name or numeral (but not the 22 names above) has a TEXT of bytes: .. what they are." */
    private static void wordsWithAText() {
        Check.textDue("nam3_", 1, "nam3_");
        Check.textDue("0X1.8P+05", 2, "0X1.8P+05");
        Check.textDue("01.50", 2, "01.50");
        Check.textDue("'x'", 3, "x");
        Check.textDue("[=[x]=]", 3, "x");
        for (String none : RESERVED) {
            noTextDue(none);
        }
        for (String none : OPERATORS) {
            noTextDue(none);
        }
        Check.due("texts of a reserved name in quotes", Check.cutOf("if 'if'").texts(), 1);
        Check.due("text of a reserved name in quotes", Check.cutOf("if 'if'").text(1), 0);
    }

    private static void noTextDue(String word) {
        ChunkWords x = Check.cutOf("a " + word + " b");
        Check.due("text of " + word, x.text(1), ChunkWords.BAD);
        Check.due("text behind " + word, x.text(2), 1);
        Check.due("texts with " + word, x.texts(), 2);
    }

    /** "Each different row of bytes has a number, 0, 1, .. as they come first." */
    private static void eachDifferentRowOnce() {
        ChunkWords x = Check.cutOf("b a 'b' [[a]] \"c\" b 12 '12' '' [[]] [[\n]]"
                + " '\\98' '\\x61\\z ' B '\\0' '\\0\\0' [=[\0]=] 012");
        int[] want = {0, 1, 0, 1, 2, 0, 3, 3, 4, 4, 4, 0, 1, 5, 6, 7, 6, 8};
        for (int i = 0; i < want.length; i++) {
            Check.due("text(" + i + ")", x.text(i), want[i]);
        }
        Check.due("texts()", x.texts(), 9);
        String[] bytes = {"b", "a", "c", "12", "", "B", "\0", "\0\0", "012"};
        for (int t = 0; t < bytes.length; t++) {
            Check.due("bytes of text " + t, Check.textOf(x, t), bytes[t]);
        }
        alikeDue("ab ba abc abd bbd a b '\\xe1\\xe2' 'a\\xe2'", 9);
        alikeDue("Aa BB AaBB BBAa BBBB AaAa", 6);
        // rows of different length that one sum over their bytes, begun with the length, cannot tell apart
        alikeDue("'' '\\xe1'", 2);
        alikeDue("'\\xe1' ''", 2);
        alikeDue("'\\xc4\\0' '\\x1f'", 2);
        alikeDue("'\\x1f' '\\xc4\\0'", 2);
        x = Check.cutOf("q");
        Check.typeAll(x, "r q");
        x.cut();
        Check.due("the first of the next cut", x.text(0), 0);
        Check.due("the second of the next cut", x.text(1), 1);
    }

    /** So many words, each with a text of its own, however alike they are. */
    private static void alikeDue(String tape, int count) {
        ChunkWords x = Check.cutOf(tape + " " + tape);
        Check.due("texts() of " + tape, x.texts(), count);
        for (int i = 0; i < count; i++) {
            Check.due("text(" + i + ") of " + tape, x.text(i), i);
            Check.due("text(" + (count + i) + ") of " + tape + " again", x.text(count + i), i);
        }
    }
}
