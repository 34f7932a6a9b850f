/** Each of the promises 2 to 15: ordinary inputs, the edges that the document names, and wrong inputs. */
public final class PromisesTest {
    private static final int BAD = ChunkWords.BAD;
    private static final int[] NONE_SUCH = {-1, -2, 3, 4, 1000, 16384, 65536, Integer.MIN_VALUE, Integer.MAX_VALUE};

    public static void main(String[] args) {
        type();
        typeFull();
        wordsFull();
        textsFull();
        cut();
        place();
        wrongLine();
        words();
        kind();
        line();
        begin();
        length();
        text();
        texts();
        size();
        at();
        find();
        Check.end();
    }

    private static void type() {
        ChunkWords x = new ChunkWords();
        for (int n : new int[] {0, -1, 9, 16, Integer.MIN_VALUE, Integer.MAX_VALUE}) {
            Check.due("type(65, " + n + ")", x.type(65, n), BAD);
        }
        Check.due("place of the empty tape", x.cut() + x.place(), 0);
        Check.due("type, 1 byte", x.type(0x7a61L, 1), 1);
        Check.due("type, 2 bytes", x.type(0x7a6263L, 2), 3);
        Check.due("type, 8 bytes", x.type(0x6465666768696a6bL, 8), 11);
        Check.due("type that is BAD", x.type(0x6465666768696a6bL, 9), BAD);
        Check.due("cut", x.cut(), 1);
        Check.due("the bytes", Check.textOf(x, 0), "abcdefghijk");
        Check.due("type of 8 bytes from 128 on", x.type(-1L, 8), 8);
        Check.due("cut of a byte 255", x.cut(), -1);
        for (int n = 1; n <= 8; n++) {
            ChunkWords y = new ChunkWords();
            Check.due("type, n " + n, y.type(0x6162636465666768L, n), n);
            y.cut();
            Check.due("the lowest " + n, Check.textOf(y, 0), "abcdefgh".substring(8 - n));
        }
    }

    /** More calls than an object is promised for: the limit stands, and nothing is thrown there. */
    private static void typeFull() {
        ChunkWords x = new ChunkWords();
        for (int k = 0; k < 8191; k++) {
            x.type(0x6161616161616161L, 8);
        }
        Check.due("7 bytes more", x.type(0x61616161616161L, 7), 65535);
        Check.due("2 bytes more than fit", x.type(0x6262, 2), ChunkWords.FULL);
        Check.due("BAD comes before FULL", x.type(0x6262, 9), BAD);
        Check.due("the last byte", x.type(0x63, 1), 65536);
        Check.due("one byte more", x.type(0x63, 1), ChunkWords.FULL);
        Check.due("cut of a full tape", x.cut(), 1);
        Check.due("size of its text", x.size(0), 65536);
        Check.due("its last byte but one", x.at(0, 65534), 'a');
        Check.due("its last byte", x.at(0, 65535), 'c');
        Check.due("type after it", x.type(0x63, 1), 1);
    }

    /** More calls than are promised, likewise. */
    private static void wordsFull() {
        ChunkWords x = new ChunkWords();
        for (int k = 0; k < 8192; k++) {
            Check.due("type " + k, x.type(0x2b2b2b2b2b2b2b2bL, 8), 8 * k + 8);
        }
        Check.due("cut of 65536 operators", x.cut(), -6);
        Check.due("place of the word too many", x.place(), 16384);
        Check.due("the words before it", x.words(), 16384);
        Check.due("the last of them", x.begin(16383), 16383);
        Check.due("the one too many", x.kind(16384), BAD);
    }

    /** More calls than are promised, likewise. */
    private static void textsFull() {
        StringBuilder tape = new StringBuilder();
        for (int k = 0; k < 16384; k++) {
            tape.append((char) ('a' + k % 26)).append((char) ('A' + k / 26 % 26)).append((char) ('A' + k / 676)).append(' ');
        }
        ChunkWords x = Check.typed(tape.toString());
        Check.due("cut of 16384 names", x.cut(), 16384);
        Check.due("their texts", x.texts(), 16384);
        Check.due("place of the end", x.place(), 65536);
        for (int t = 0; t < 16384; t += 127) {
            Check.due("text of name " + t, x.text(t), t);
            Check.due("bytes of name " + t, Check.textOf(x, t), tape.substring(4 * t, 4 * t + 3));
        }
        Check.due("the text of the last name", x.text(16383), 16383);
        wordTooMany("! ", 1);
        wordTooMany("3x", 6);
        wordTooMany("'\\q", 6);
        wordTooMany("[=", 6);
        wordTooMany("ab", 6);
        wordTooMany("  ", 0);
        wordTooMany("--", 0);
    }

    /** What comes behind 16384 words. */
    private static void wordTooMany(String last, int why) {
        ChunkWords x = Check.typed("+ ".repeat(16384) + last);
        Check.due("cut of 16384 words and " + last, x.cut(), why == 0 ? 16384 : -why);
        Check.due("place behind 16384 words and " + last, x.place(), why == 0 ? 32768 + last.length() : 32768);
        Check.due("words of 16384 words and " + last, x.words(), 16384);
        Check.due("texts of 16384 words and " + last, x.texts(), 0);
    }

    private static void cut() {
        ChunkWords x = Check.typed("a + b");
        Check.due("cut()", x.cut(), 3);
        Check.due("cut() of the tape that is empty then", x.cut(), 0);
        Check.due("words of before are gone", x.words(), 0);
        Check.due("texts of before are gone", x.texts(), 0);
        Check.typeAll(x, "a ! b");
        Check.due("cut() that is wrong", x.cut(), -1);
        Check.due("the words before that", x.words(), 1);
        Check.due("the tape is empty then, too", x.type('c', 1), 1);
        Check.due("cut() after a wrong one", x.cut(), 1);
        Check.due("the text is the new one", Check.textOf(x, 0), "c");
    }

    private static void place() {
        ChunkWords x = Check.typed("ab cd");
        Check.due("place() before", x.place(), 0);
        x.cut();
        Check.due("place() when right", x.place(), 5);
        Check.typeAll(x, "ab cd ?");
        Check.due("place() of the latest cut", x.place(), 5);
        x.cut();
        Check.due("place() when wrong", x.place(), 6);
        x.cut();
        Check.due("place() of an empty tape", x.place(), 0);
    }

    private static void wrongLine() {
        ChunkWords x = Check.typed("\n\n");
        Check.due("wrongLine() before", x.wrongLine(), 1);
        x.cut();
        Check.due("wrongLine() when right", x.wrongLine(), 3);
        Check.typeAll(x, "a\r\nb\n\n  $\n");
        x.cut();
        Check.due("wrongLine() when wrong", x.wrongLine(), 4);
        Check.due("wrongLine() behind a long text", lineOfStop("[[\n\r\n]]\r@"), 4);
        Check.due("wrongLine() at a line end in quotes", lineOfStop("\n'a\r\nb'"), 2);
        Check.due("wrongLine() of a numeral", lineOfStop("\n\r3x\n"), 2);
        Check.due("wrongLine() at the tape's end", lineOfStop("--[[\n\r\r\n\n\n"), 5);
        Check.due("wrongLine() in an escape behind a line end", lineOfStop("'\\\n\\z\n\r \r\n\\q'"), 4);
        Check.due("wrongLine() of an empty tape", lineOfStop(""), 1);
    }

    private static int lineOfStop(String tape) {
        return Check.cutOf(tape).wrongLine();
    }

    private static void words() {
        Check.due("words() of blanks", Check.cutOf("\t\n\u000b\f\r ").words(), 0);
        Check.due("words()", Check.cutOf("local x <const>=5").words(), 6);
        Check.due("words() when wrong", Check.cutOf("x = 5x").words(), 2);
        ChunkWords x = Check.cutOf("x y z");
        Check.typeAll(x, "a b");
        Check.due("words() stays while typing", x.words(), 3);
    }

    private static ChunkWords three() {
        return Check.cutOf("\n and  \"a\\65\"\r\n+ ");
    }

    private static void kind() {
        ChunkWords x = three();
        Check.due("kind(0)", x.kind(0), 10);
        Check.due("kind(1)", x.kind(1), 3);
        Check.due("kind(2)", x.kind(2), 40);
        for (int i : NONE_SUCH) {
            Check.due("kind(" + i + ")", x.kind(i), BAD);
        }
    }

    private static void line() {
        ChunkWords x = three();
        Check.due("line(0)", x.line(0), 2);
        Check.due("line(1)", x.line(1), 2);
        Check.due("line(2)", x.line(2), 3);
        for (int i : NONE_SUCH) {
            Check.due("line(" + i + ")", x.line(i), BAD);
        }
        Check.due("line() of a word over lines", Check.cutOf("\n[[\n\n]]x").line(0), 2);
        Check.due("line() behind it", Check.cutOf("\n[[\n\n]]x").line(1), 4);
        Check.due("line() behind \\n\\n", Check.cutOf("\n\nx").line(0), 3);
        Check.due("line() behind \\r\\r", Check.cutOf("\r\rx").line(0), 3);
        Check.due("line() behind \\n\\r", Check.cutOf("\n\rx").line(0), 2);
        Check.due("line() behind \\r\\n", Check.cutOf("\r\nx").line(0), 2);
        Check.due("line() behind \\r\\n\\r", Check.cutOf("\r\n\rx").line(0), 3);
        Check.due("line() behind \\n\\n\\r", Check.cutOf("\n\n\rx").line(0), 3);
        Check.due("line() behind \\n\\r\\n\\r", Check.cutOf("\n\r\n\rx").line(0), 3);
        Check.due("line() behind \\n \\r", Check.cutOf("\n \rx").line(0), 3);
        Check.due("line() behind 11 and 12", Check.cutOf("\u000b\fx").line(0), 1);
    }

    private static void begin() {
        ChunkWords x = three();
        Check.due("begin(0)", x.begin(0), 2);
        Check.due("begin(1)", x.begin(1), 7);
        Check.due("begin(2)", x.begin(2), 15);
        for (int i : NONE_SUCH) {
            Check.due("begin(" + i + ")", x.begin(i), BAD);
        }
    }

    private static void length() {
        ChunkWords x = three();
        Check.due("length(0)", x.length(0), 3);
        Check.due("length(1)", x.length(1), 6);
        Check.due("length(2)", x.length(2), 1);
        for (int i : NONE_SUCH) {
            Check.due("length(" + i + ")", x.length(i), BAD);
        }
        Check.due("length of a long bracket", Check.cutOf("[==[\r\na]]]==] ").length(0), 13);
        Check.due("length of a numeral", Check.cutOf("0x1p-2 ").length(0), 6);
    }

    private static void text() {
        ChunkWords x = three();
        Check.due("text of a name that is kept", x.text(0), BAD);
        Check.due("text of a text", x.text(1), 0);
        Check.due("text of an operator", x.text(2), BAD);
        for (int i : NONE_SUCH) {
            Check.due("text(" + i + ")", x.text(i), BAD);
        }
        x = Check.cutOf("x 1 'x' y \"1\" x [[y]] [[\nx]] '' X if 'if' [[]]");
        int[] want = {0, 1, 0, 2, 1, 0, 2, 0, 3, 4, BAD, 5, 3};
        for (int i = 0; i < want.length; i++) {
            Check.due("text(" + i + ")", x.text(i), want[i]);
        }
    }

    private static void texts() {
        Check.due("texts() without one", Check.cutOf("if + -- x").texts(), 0);
        Check.due("texts() once each", Check.cutOf("a b a 'b' 1 [=[1]=] '' [[]]").texts(), 4);
        Check.due("texts() when wrong", Check.cutOf("a b 'c\\q'").texts(), 2);
        Check.due("texts() before a wrong numeral", Check.cutOf("a 3x").texts(), 1);
        Check.due("texts() before a text without end", Check.cutOf("a [[b").texts(), 1);
    }

    private static void size() {
        ChunkWords x = Check.cutOf("abc '' 12.5");
        Check.due("size(0)", x.size(0), 3);
        Check.due("size(1)", x.size(1), 0);
        Check.due("size(2)", x.size(2), 4);
        for (int i : NONE_SUCH) {
            Check.due("size(" + i + ")", x.size(i), BAD);
        }
    }

    private static void at() {
        ChunkWords x = Check.cutOf("ab '' '\\xff\\0\\x7f\\x80'");
        Check.due("at(0, 0)", x.at(0, 0), 'a');
        Check.due("at(0, 1)", x.at(0, 1), 'b');
        Check.due("at(1, 0)", x.at(1, 0), BAD);
        Check.due("at(2, 0)", x.at(2, 0), 255);
        Check.due("at(2, 1)", x.at(2, 1), 0);
        Check.due("at(2, 2)", x.at(2, 2), 127);
        Check.due("at(2, 3)", x.at(2, 3), 128);
        for (int k : new int[] {2, -1, 3, Integer.MIN_VALUE, Integer.MAX_VALUE}) {
            Check.due("at(0, " + k + ")", x.at(0, k), BAD);
        }
        for (int i : NONE_SUCH) {
            Check.due("at(" + i + ", 0)", x.at(i, 0), BAD);
        }
    }

    private static void find() {
        ChunkWords x = Check.cutOf("name 1.5 '\\200\\0' and name");
        Check.due("find() of an empty tape without such a text", x.find(), BAD);
        Check.typeAll(x, "name");
        Check.due("find() of a name", x.find(), 0);
        Check.due("find() once more: the tape stays", x.find(), 0);
        Check.due("type behind what stays", x.type('s', 1), 5);
        Check.due("find() of one byte more", x.find(), BAD);
        Check.due("words() after find()", x.words(), 5);
        Check.due("cut of what stayed", x.cut(), 1);
        Check.due("find() where texts of before are gone", found("name 1.5", "names", "name"), BAD);
        Check.due("find() of a byte above 127", found("name '\\200\\0'", null, "\u00c8\0"), 1);
        Check.due("find() of a kept name", found("and 'or'", null, "and"), BAD);
        Check.due("find() of what a text is, not of how it is written", found("'or'", null, "'or'"), BAD);
        Check.due("find() of the beginning of a text", found("name", null, "nam"), BAD);
        Check.due("find() of an empty text", found("a '' b", null, ""), 1);
        Check.due("find() after a wrong cut", found("a b ?", null, "b"), 1);
    }

    private static int found(String first, String second, String looked) {
        ChunkWords x = Check.cutOf(first);
        if (second != null) {
            Check.typeAll(x, second);
            x.cut();
        }
        Check.typeAll(x, looked);
        return x.find();
    }
}
