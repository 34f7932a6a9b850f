/**
 * The six reasons of "IT IS WRONG, why and where": a test for each sentence and
 * for each edge that it names, in the document's order, with its words above it.
 */
public final class WrongEdgesTest {
    private static final String[] LINE_ENDS = {"\n", "\r", "\n\r", "\r\n"};
    private static final String[] ESCAPES = {"\\a", "\\\\", "\\'", "\\\"", "\\\n", "\\\r\n", "\\z", "\\z \n", "\\x41",
        "\\0", "\\25", "\\255", "\\u{0}", "\\u{7fffffff}"};

    public static void main(String[] args) {
        byteWithoutAWord();
        numeralNotRight();
        escapeThatIsNone();
        escapeAtALineEnd();
        byteAbove255();
        numberNotBelow2To31();
        textThatDoesNotEnd();
        commentThatDoesNotEnd();
        quotesAtALineEnd();
        tapeThatEndsInAnEscape();
        tapeThatEndsBehindNoEscape();
        bracketThatDoesNotOpen();
        lastWordThatFits();
        oneWordMore();
        whatIsNoWordBehindTheLast();
        firstWrongCounts();
        Check.end();
    }

    /** "1 a byte with which no word begins, there": each of the 256 bytes, alone, behind a word and behind a line. */
    private static void byteWithoutAWord() {
        String begins = "_abcdefghijklmnopqrstuvwxyzABCDEFGHIJKLMNOPQRSTUVWXYZ0123456789'\"+-*/%^#&~|<>=(){}[];:,."
                + "\t\n\u000b\f\r ";
        int none = 0;
        for (char c = 0; c < 256; c++) {
            if (begins.indexOf(c) < 0) {
                none++;
                Check.wrongDue("" + c, 1, 0, 1, 0);
                Check.wrongDue("a" + c, 1, 1, 1, 1);
                Check.wrongDue("1\n" + c + "b", 1, 2, 2, 1);
                Check.wrongDue("''" + c + c, 1, 2, 1, 1);
                Check.wrongDue("--\r\n" + c, 1, 4, 2, 0);
            } else {
                Check.due("a word begins with byte " + (int) c, Check.typed("" + c).cut() == -1 ? 1 : 0, 0);
            }
        }
        Check.due("with how many bytes no word begins", none, 256 - 94);
        Check.kindsDue("'!' [[$]] --@", "3 3 ");
    }

    /** "2 a numeral that is not right, at its beginning." */
    private static void numeralNotRight() {
        Check.wrongDue("3x", 2, 0, 1, 0);
        Check.wrongDue(".5.", 2, 0, 1, 0);
        Check.wrongDue("a\r\n\n 0x.p-1!", 2, 5, 3, 1);
        Check.wrongDue("12 1e+", 2, 3, 1, 1);
        Check.wrongDue("a..3..2", 2, 3, 1, 2);
        Check.wrongDue("[[\n]]3e", 2, 5, 2, 1);
        Check.wrongDue("-3_", 2, 1, 1, 1);
    }

    /** "3 an escape that is none, at the first byte with which none goes on" */
    private static void escapeThatIsNone() {
        Check.wrongDue("'\\q'", 3, 2, 1, 0);
        Check.wrongDue("'\\ n'", 3, 2, 1, 0);
        Check.wrongDue("'\\xg1'", 3, 3, 1, 0);
        Check.wrongDue("'\\x1g'", 3, 4, 1, 0);
        Check.wrongDue("'\\xg", 3, 3, 1, 0);
        Check.wrongDue("'\\u(41)'", 3, 3, 1, 0);
        Check.wrongDue("'\\u{}'", 3, 4, 1, 0);
        Check.wrongDue("'\\u{g}'", 3, 4, 1, 0);
        Check.wrongDue("'\\u{4g}'", 3, 5, 1, 0);
        Check.wrongDue("'\\u{41 }'", 3, 6, 1, 0);
        Check.wrongDue("'\\u{41'", 3, 6, 1, 0);
        Check.wrongDue("x\n\"a\\65\\z \n\\q\"", 3, 12, 3, 1);
    }

    /** A line end behind an escape that is begun is a byte with which it does not go on, and no end of the text. */
    private static void escapeAtALineEnd() {
        for (String end : LINE_ENDS) {
            Check.wrongDue("'\\x" + end + "'", 3, 3, 1, 0);
            Check.wrongDue("'\\x4" + end + "'", 3, 4, 1, 0);
            Check.wrongDue("'\\u" + end + "'", 3, 3, 1, 0);
            Check.wrongDue("'\\u{" + end + "'", 3, 4, 1, 0);
            Check.wrongDue("'\\u{4" + end + "'", 3, 5, 1, 0);
            Check.wrongDue("'\\4" + end + "'", 4, 3, 1, 0);
        }
    }

    /** "(for a byte above 255 at its first digit" */
    private static void byteAbove255() {
        Check.textDue("'\\255'", 3, "\u00ff");
        for (String digits : new String[] {"256", "260", "300", "999"}) {
            Check.wrongDue("'\\" + digits + "'", 3, 2, 1, 0);
            Check.wrongDue("'a\\0\\" + digits + "0'", 3, 5, 1, 0);
            Check.wrongDue("\n'\\" + digits + "\n'", 3, 3, 2, 0);
        }
        Check.textDue("'\\099\\0256'", 3, "c\u00196");
    }

    /** "for v not below 2^31 at the digit that makes it so)" */
    private static void numberNotBelow2To31() {
        Check.wrongDue("'\\u{80000000}'", 3, 11, 1, 0);
        Check.wrongDue("'\\u{7fffffffF}'", 3, 12, 1, 0);
        Check.wrongDue("'\\u{100000000}'", 3, 12, 1, 0);
        Check.wrongDue("'\\u{080000000000}'", 3, 12, 1, 0);
        // the digit counts, and not what follows it
        Check.wrongDue("'\\u{80000000'", 3, 11, 1, 0);
        Check.wrongDue("'\\u{80000000\n", 3, 11, 1, 0);
        Check.wrongDue("'\\u{8000000'", 3, 11, 1, 0);
        Check.wrongDue("'\\u{7fffffff'", 3, 12, 1, 0);
    }

    /** "4 a text .. that does not end, at the tape's end" */
    private static void textThatDoesNotEnd() {
        for (String text : new String[] {"'", "\"", "'a", "\"a'", "'a\"", "[[", "[[a", "[[a]", "[[a]=]", "[=[", "[=[a]]",
            "[=[a]=", "[=[a]==]", "[==[a]=]"}) {
            Check.wrongDue(text, 4, text.length(), 1, 0);
            Check.wrongDue("b\n" + text, 4, 2 + text.length(), 2, 1);
        }
        for (String end : LINE_ENDS) {
            Check.wrongDue("[[a" + end + end, 4, 3 + 2 * end.length(), 3, 0);
            Check.wrongDue("[=[" + end + "]]", 4, 5 + end.length(), 2, 0);
        }
        Check.due("texts before it", Check.cutOf("a [[b").texts(), 1);
        Check.due("texts before it", Check.cutOf("a 'b").texts(), 1);
    }

    /** "or a comment in a long bracket, that does not end, at the tape's end" */
    private static void commentThatDoesNotEnd() {
        for (String comment : new String[] {"--[[", "--[[a", "--[[a]", "--[=[]]", "--[=[]=", "--[=[]==]", "--[==[]=]"}) {
            Check.wrongDue(comment, 4, comment.length(), 1, 0);
            Check.wrongDue("b\n" + comment + "\r\n", 4, 4 + comment.length(), 3, 1);
        }
        // one that is not in a long bracket ends there
        Check.kindsDue("--", "");
        Check.kindsDue("--[", "");
        Check.kindsDue("--[=", "");
        Check.kindsDue("--'", "");
    }

    /** "one in quotes at a line end, too" */
    private static void quotesAtALineEnd() {
        for (String end : LINE_ENDS) {
            Check.wrongDue("'" + end, 4, 1, 1, 0);
            Check.wrongDue("\"a" + end + "\"", 4, 2, 1, 0);
            Check.wrongDue("a" + end + "'b\\" + end + "c" + end + "'", 4, 5 + 2 * end.length(), 3, 1);
            Check.wrongDue("'\\z" + end + "a" + end + "'", 4, 4 + end.length(), 2, 0);
        }
        Check.textDue("'\u000b\f'", 3, "\u000b\f");
    }

    /** "(but a tape that ends in an escape is 4, not 3)": it ends behind each byte of each escape. */
    private static void tapeThatEndsInAnEscape() {
        for (String escape : ESCAPES) {
            for (int size = 1; size <= escape.length(); size++) {
                String tape = "'" + escape.substring(0, size);
                int lines = escape.indexOf('\n') >= 0 && size == escape.length() || tape.endsWith("\r") ? 2 : 1;
                Check.wrongDue(tape, 4, tape.length(), lines, 0);
                Check.wrongDue("a " + tape, 4, 2 + tape.length(), lines, 1);
            }
        }
    }

    /** A tape that ends where an escape is none already is 3: no byte behind it could mend that. */
    private static void tapeThatEndsBehindNoEscape() {
        Check.wrongDue("'\\q", 3, 2, 0);
        Check.wrongDue("'\\xg", 3, 3, 0);
        Check.wrongDue("'\\x1g", 3, 4, 0);
        Check.wrongDue("'\\256", 3, 2, 0);
        Check.wrongDue("'\\ux", 3, 3, 0);
        Check.wrongDue("'\\u{}", 3, 4, 0);
        Check.wrongDue("'\\u{80000000", 3, 11, 0);
    }

    /** "5 [ and one or more =, and then neither = nor [, there": each of the 256 bytes, and the tape's end. */
    private static void bracketThatDoesNotOpen() {
        for (int signs : new int[] {1, 2, 3, 100}) {
            String begun = "[" + "=".repeat(signs);
            Check.wrongDue(begun, 5, 1 + signs, 1, 0);
            for (char c = 0; c < 256; c++) {
                if (c == '[') {
                    Check.wrongDue(begun + c, 4, 2 + signs, 1, 0);
                } else if (c == '=') {
                    Check.wrongDue(begun + c, 5, 2 + signs, 1, 0);
                } else {
                    Check.wrongDue(begun + c, 5, 1 + signs, 1, 0);
                    Check.wrongDue("a\n" + begun + c + "[", 5, 3 + signs, 2, 1);
                }
            }
        }
        Check.kindsDue("[", "64 ");
        Check.kindsDue("[ =", "64 59 ");
        Check.kindsDue("[a", "64 1 ");
        Check.kindsDue("[]", "64 65 ");
        Check.kindsDue("]=", "65 59 ");
        Check.kindsDue("--[=", "");
    }

    private static final int MOST_WORDS = 16384;
    private static final String ALL_WORDS = "+ ".repeat(MOST_WORDS);

    /** "6 what would be one word more than 16384": 16384 are none too many. (It takes more calls than are promised.) */
    private static void lastWordThatFits() {
        String before = "+ ".repeat(MOST_WORDS - 1);
        for (String last : new String[] {"a", "and", "1", "'a'", "[[a]]", "+", "..."}) {
            ChunkWords x = Check.typed(before + last);
            Check.due("cut of 16383 words and " + last, x.cut(), MOST_WORDS);
            Check.due("place of 16383 words and " + last, x.place(), before.length() + last.length());
            Check.due("begin of the last one, " + last, x.begin(MOST_WORDS - 1), before.length());
            Check.due("length of the last one, " + last, x.length(MOST_WORDS - 1), last.length());
        }
        Check.wrongDue(before + "3x", 2, before.length(), MOST_WORDS - 1);
        Check.wrongDue(before + "'\\q'", 3, before.length() + 2, MOST_WORDS - 1);
        Check.wrongDue(before + "'a", 4, before.length() + 2, MOST_WORDS - 1);
        Check.wrongDue(before + "[=a", 5, before.length() + 2, MOST_WORDS - 1);
    }

    /** "one word more than 16384, right or not, at its beginning" */
    private static void oneWordMore() {
        int there = ALL_WORDS.length();
        for (String right : new String[] {"a", "and", "1", ".5", "'a'", "[[a]]", "[=[a]=]", "+", "...", "[", "-"}) {
            Check.wrongDue(ALL_WORDS + right, 6, there, MOST_WORDS);
            Check.wrongDue(ALL_WORDS + "\n \r\n" + right, 6, there + 4, 3, MOST_WORDS);
            Check.due("texts of 16384 words and " + right, Check.cutOf(ALL_WORDS + right).texts(), 0);
        }
        for (String wrong : new String[] {"3x", "'", "'\n", "'\\q'", "'\\", "[[", "[=a", "[=", "[==["}) {
            Check.wrongDue(ALL_WORDS + wrong, 6, there, MOST_WORDS);
        }
        ChunkWords x = Check.cutOf(ALL_WORDS + "a");
        Check.due("kind of the last word", x.kind(MOST_WORDS - 1), 40);
        Check.due("kind of the word too many", x.kind(MOST_WORDS), ChunkWords.BAD);
        Check.due("type behind it", x.type('b', 1), 1);
        Check.due("cut behind it", x.cut(), 1);
    }

    /** Blanks, comments and bytes with which no word begins are no word more. */
    private static void whatIsNoWordBehindTheLast() {
        int there = ALL_WORDS.length();
        for (String left : new String[] {"", " ", "\n\t", "--", "-- a\n", "--[[a]] "}) {
            ChunkWords x = Check.typed(ALL_WORDS + left);
            Check.due("cut of 16384 words and " + Check.shown(left), x.cut(), MOST_WORDS);
            Check.due("place of 16384 words and " + Check.shown(left), x.place(), there + left.length());
        }
        Check.wrongDue(ALL_WORDS + "!", 1, there, MOST_WORDS);
        Check.wrongDue(ALL_WORDS + "--[[a", 4, there + 5, MOST_WORDS);
    }

    /** "or where, and why, the text cannot go on": the first thing that is wrong, and the words before it. */
    private static void firstWrongCounts() {
        String[] wrong = {"!", "3x ", "'\\q'", "'a\n", "[=a"};
        int[] places = {0, 0, 2, 2, 2};
        for (int i = 0; i < wrong.length; i++) {
            for (String next : wrong) {
                Check.wrongDue(wrong[i] + next, i + 1, places[i], 1, 0);
                Check.wrongDue("and b\n" + wrong[i] + " c " + next, i + 1, 6 + places[i], 2, 2);
            }
        }
    }
}
