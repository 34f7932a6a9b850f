/**
 * The edges of the promises 1 to 15: a test for each sentence that names one,
 * in the document's order, with the sentence above it.
 */
public final class PromiseEdgesTest {
    private static final int BAD = ChunkWords.BAD;
    private static final int FULL = ChunkWords.FULL;
    private static final int[] FAR = {-2, -3, -256, -65536, 255, 256, 16383, 16384, 16385, 65535, 65536, 1 << 30,
        Integer.MIN_VALUE, Integer.MIN_VALUE + 1, Integer.MAX_VALUE - 1, Integer.MAX_VALUE};

    public static void main(String[] args) {
        usedFor512Calls();
        cutInEachCall();
        emptyTapeNoWords();
        lowestBytesHighestFirst();
        badWhenNotOneToEight();
        fullBeyondTheLimit();
        badAndFullChangeNothing();
        emptyThen();
        wordsAndTextsOfBeforeAreGone();
        minusWhy();
        wordsBeforeThatAreThere();
        placeWhereItWasWrong();
        placeIsItsLength();
        placeBefore();
        lineOfThatPlace();
        howManyWords();
        noWordSuch();
        noWordSuchInAnyState();
        lineOfItsFirstByte();
        bytesOfTheTape();
        noTextOfIt();
        howManyTexts();
        noTextSuch();
        noByteSuch();
        bytesTo255();
        tapeStays();
        tapeIsNoText();
        emptyTapeAsAText();
        findBesideCut();
        Check.end();
    }

    private static void typeTimes(ChunkWords x, String eight, int times) {
        for (int k = 0; k < times; k++) {
            long packed = 0;
            for (char c : eight.toCharArray()) {
                packed = packed << 8 | c;
            }
            x.type(packed, eight.length());
        }
    }

    /** "An object is used for at most 512 calls": the last of them still answers. */
    private static void usedFor512Calls() {
        ChunkWords x = new ChunkWords();
        for (int k = 1; k <= 500; k++) {
            Check.due("call " + k, x.type(0x6120622063206420L, 8), 8 * k);
        }
        Check.due("call 501", x.cut(), 2000);
        Check.due("call 502", x.place(), 4000);
        Check.due("call 503", x.words(), 2000);
        Check.due("call 504", x.texts(), 4);
        Check.due("call 505", x.begin(1999), 3998);
        Check.due("call 506", x.text(1999), 3);
        Check.due("call 507", x.kind(2000), BAD);
        Check.due("call 508", x.at(3, 0), 'd');
        Check.due("call 509", x.type('d', 1), 1);
        Check.due("call 510", x.find(), 3);
        Check.due("call 511", x.cut(), 1);
        Check.due("call 512", x.size(0), 1);
    }

    /** Cuts without end on one object: every one begins as the first did. */
    private static void cutInEachCall() {
        ChunkWords x = new ChunkWords();
        for (int k = 0; k < 64; k++) {
            Check.typeAll(x, "a 'b'\n3");
            Check.due("cut " + k, x.cut(), 3);
            Check.due("texts " + k, x.texts(), 3);
            Check.due("wrongLine " + k, x.wrongLine(), 2);
            Check.typeAll(x, "\n\n!");
            Check.due("wrong cut " + k, x.cut(), -1);
            Check.due("texts of wrong cut " + k, x.texts(), 0);
        }
    }

    /** Promise 1: "An empty tape, no words." */
    private static void emptyTapeNoWords() {
        ChunkWords x = new ChunkWords();
        Check.due("words() of a new object", x.words(), 0);
        Check.due("texts() of a new object", x.texts(), 0);
        for (int i : new int[] {-1, 0, 1}) {
            noWordDue(x, i);
            noTextDue(x, i);
        }
        Check.due("find() of a new object", x.find(), BAD);
        Check.due("type on a new object", x.type('a', 1), 1);
        Check.due("cut() of a new object", new ChunkWords().cut(), 0);
    }

    /** Promise 2: "The lowest n bytes of bytes, the highest of them first, come behind the tape: its length." */
    private static void lowestBytesHighestFirst() {
        for (int n = 1; n <= 8; n++) {
            ChunkWords x = new ChunkWords();
            Check.due("type, n " + n, x.type(0x6162636465666768L, n), n);
            Check.due("type once more, n " + n, x.type(0x7172737475767778L, n), 2 * n);
            Check.due("type 1 more", x.type('z', 1), 2 * n + 1);
            x.cut();
            String want = "abcdefgh".substring(8 - n) + "qrstuvwx".substring(8 - n) + "z";
            Check.due("the bytes, n " + n, Check.textOf(x, 0), want);
            Check.due("length of them", x.length(0), 2 * n + 1);
        }
        for (long bytes : new long[] {0, -1, Long.MIN_VALUE, Long.MAX_VALUE, 0x80ff7f0180ff7f01L, 0x0123456789abcdefL}) {
            for (int n = 1; n <= 8; n++) {
                typedBytesDue(bytes, n);
            }
        }
    }

    /** Bytes of any sort come out of a long bracket as they went in; none of these is a line end. */
    private static void typedBytesDue(long bytes, int n) {
        ChunkWords x = Check.typed("[[");
        Check.due("type(" + bytes + ", " + n + ")", x.type(bytes, n), 2 + n);
        Check.typeBehind(x, "]]", 2 + n);
        Check.due("cut of " + bytes, x.cut(), 1);
        Check.due("size of " + bytes, x.size(0), n);
        for (int k = 0; k < n; k++) {
            Check.due("byte " + k + " of " + bytes, x.at(0, k), bytes >> 8 * (n - 1 - k) & 255);
        }
    }

    /** Promise 2: "BAD when n is not 1 .. 8" */
    private static void badWhenNotOneToEight() {
        ChunkWords x = new ChunkWords();
        for (int n : new int[] {0, -1, 9, 10, -8, 16, 64, 257, -255}) {
            Check.due("type(97, " + n + ") on an empty tape", x.type(97, n), BAD);
        }
        for (int n : FAR) {
            Check.due("type(97, " + n + ") on an empty tape", x.type(97, n), BAD);
        }
        Check.due("type(97, 1)", x.type(97, 1), 1);
        Check.due("type(97, 0) behind it", x.type(97, 0), BAD);
        Check.due("type(97, 9) behind it", x.type(97, 9), BAD);
        Check.due("type of 8", x.type(0x6162636465666768L, 8), 9);
    }

    /** Promise 2: "FULL when there would be more than 65536." (More calls than are promised are needed.) */
    private static void fullBeyondTheLimit() {
        for (int n = 1; n <= 8; n++) {
            ChunkWords x = new ChunkWords();
            typeTimes(x, "aaaaaaaa", 8191);
            // n bytes just fit, and one byte before that they do not
            if (n < 8) {
                typeTimes(x, "a", 8 - n);
            }
            Check.due("the last " + n + " bytes", x.type(0x6262626262626262L, n), 65536);
            for (int m = 1; m <= 8; m++) {
                Check.due(m + " bytes more", x.type(0x63, m), FULL);
            }
            ChunkWords y = new ChunkWords();
            typeTimes(y, "aaaaaaaa", 8191);
            typeTimes(y, "a", 9 - n);
            Check.due("one byte more than fits, n " + n, y.type(0x62, n), FULL);
            if (n > 1) {
                Check.due("one byte fewer, n " + n, y.type(0x6262626262626262L, n - 1), 65536);
            }
        }
    }

    /** A refused call changes nothing. */
    private static void badAndFullChangeNothing() {
        ChunkWords x = Check.cutOf("a 'b' !");
        Check.typeAll(x, "b");
        Check.due("a type that is BAD", x.type(0x6363, 0) + x.type(0x63, 9), 2 * BAD);
        Check.due("find() behind it", x.find(), 1);
        Check.due("words() behind it", x.words(), 2);
        Check.due("place() behind it", x.place(), 6);
        Check.due("type behind it", x.type('c', 1), 2);
        x.cut();
        Check.due("the tape behind it", Check.textOf(x, 0), "bc");
        typeTimes(x, "aaaaaaaa", 8191);
        Check.due("7 bytes", x.type(0x62626262626262L, 7), 65535);
        Check.due("8 bytes more", x.type(0x6363636363636363L, 8), FULL);
        Check.due("2 bytes more", x.type(0x6363L, 2), FULL);
        Check.due("9 bytes more", x.type(0x6363L, 9), BAD);
        Check.due("words() behind FULL", x.words(), 1);
        Check.due("find() behind FULL", x.find(), BAD);
        Check.due("the byte that fits", x.type('d', 1), 65536);
        Check.due("cut() behind FULL", x.cut(), 1);
        Check.due("the tape behind FULL", Check.textOf(x, 0), "a".repeat(65528) + "bbbbbbbd");
        Check.due("type behind the cut", x.type('d', 1), 1);
    }

    /** Promise 3: "The tape is cut, and is empty then" */
    private static void emptyThen() {
        for (String tape : new String[] {"", "a", "a b", " ", "!", "3x", "'\\q'", "'a", "[=", "a 'b' !", "--[["}) {
            ChunkWords x = Check.cutOf(tape);
            Check.due("type behind a cut of " + tape, x.type('q', 1), 1);
            Check.due("cut of that", x.cut(), 1);
            Check.due("the only text", Check.textOf(x, 0), "q");
            Check.due("length of the tape", x.place(), 1);
            Check.due("cut of nothing", x.cut(), 0);
            Check.due("place of nothing", x.place(), 0);
        }
        // what a longer tape left behind its end is not seen by a shorter one
        ChunkWords x = Check.cutOf("'ab' [[cd]] == ... 1e+5");
        for (String shorter : new String[] {"'", "'a", "[", "=", ".", "1", "1e", "[[cd]", "-", "'\\"}) {
            ChunkWords y = Check.typed(shorter);
            Check.typeAll(x, shorter);
            Check.due("cut of " + shorter + " behind a longer tape", x.cut(), y.cut());
            Check.due("place of " + shorter + " behind a longer tape", x.place(), y.place());
            Check.due("kinds of " + shorter + " behind a longer tape", Check.kinds(x), Check.kinds(y));
            Check.typeAll(x, "'ab' [[cd]] == ... 1e+5");
            Check.due("cut of the longer tape", x.cut(), 5);
        }
    }

    /** Promise 3: "words and texts of before are gone" */
    private static void wordsAndTextsOfBeforeAreGone() {
        for (String next : new String[] {"", " ", "--", "!", "a", "+"}) {
            ChunkWords x = Check.cutOf("x 'y' 12 z");
            Check.typeAll(x, next);
            x.cut();
            int words = next.equals("a") || next.equals("+") ? 1 : 0;
            int texts = next.equals("a") ? 1 : 0;
            Check.due("words() behind " + next, x.words(), words);
            Check.due("texts() behind " + next, x.texts(), texts);
            for (int i = 0; i < 5; i++) {
                if (i >= words) {
                    noWordDue(x, i);
                }
                if (i >= texts) {
                    noTextDue(x, i);
                }
            }
            Check.typeAll(x, "x");
            Check.due("find() of a text of before, behind " + next, x.find(), BAD);
        }
    }

    /** Promise 3: "how many words; -why when it is wrong" */
    private static void minusWhy() {
        Check.due("cut() of nothing", Check.typed("").cut(), 0);
        Check.due("cut() of one word", Check.typed("a").cut(), 1);
        Check.due("cut() of three words", Check.typed("a+b").cut(), 3);
        Check.due("cut(), why 1", Check.typed("a !").cut(), -1);
        Check.due("cut(), why 2", Check.typed("a 3x").cut(), -2);
        Check.due("cut(), why 3", Check.typed("a '\\q'").cut(), -3);
        Check.due("cut(), why 4", Check.typed("a 'b").cut(), -4);
        Check.due("cut(), why 5", Check.typed("a [=").cut(), -5);
        Check.due("cut(), why 6", Check.typed("+ ".repeat(16385)).cut(), -6);
    }

    /** Promise 3: "(the words before that are there)", and no part of what is wrong. */
    private static void wordsBeforeThatAreThere() {
        for (String wrong : new String[] {"!", "3x", "'ab\\q'", "'ab", "'ab\n'", "[[ab", "[=", "--[[ab", "'\\300'"}) {
            ChunkWords x = Check.cutOf("if\n12 'c\\65' " + wrong);
            Check.due("words() before " + wrong, x.words(), 3);
            Check.due("texts() before " + wrong, x.texts(), 2);
            Check.due("kinds before " + wrong, Check.kinds(x), "20 2 3 ");
            Check.due("line before " + wrong, x.line(2), 2);
            Check.due("begin before " + wrong, x.begin(2), 6);
            Check.due("length before " + wrong, x.length(2), 6);
            Check.due("text before " + wrong, Check.textOf(x, x.text(2)), "cA");
            noWordDue(x, 3);
            noTextDue(x, 2);
        }
    }

    /** Promise 4: "Where it was wrong in the latest cut()" */
    private static void placeWhereItWasWrong() {
        ChunkWords x = Check.cutOf("ab !");
        Check.due("place()", x.place(), 3);
        Check.due("place() once more", x.place(), 3);
        Check.typeAll(x, "a");
        Check.due("place() while the tape grows", x.place(), 3);
        x.find();
        Check.due("place() behind find()", x.place(), 3);
        Check.typeBehind(x, " 3x", 1);
        x.cut();
        Check.due("place() of the latest", x.place(), 2);
        Check.typeAll(x, "!");
        x.cut();
        Check.due("place() of the first byte", x.place(), 0);
        Check.typeAll(x, "'abc");
        x.cut();
        Check.due("place() of the tape's end", x.place(), 4);
    }

    /** Promise 4: "its length when it was not" */
    private static void placeIsItsLength() {
        for (String tape : new String[] {"", "a", "a ", " ", "\r\n", "--", "--\n", "[[\n]]", "12345678", "123456789"}) {
            Check.due("place() of " + Check.shown(tape), Check.cutOf(tape).place(), tape.length());
        }
        ChunkWords x = Check.cutOf("a!");
        Check.due("place() of a wrong one", x.place(), 1);
        x.cut();
        Check.due("place() of an empty tape behind it", x.place(), 0);
    }

    /** Promise 4: "0 before", and promise 5: "1 before". */
    private static void placeBefore() {
        ChunkWords x = new ChunkWords();
        Check.due("place() before", x.place(), 0);
        Check.due("wrongLine() before", x.wrongLine(), 1);
        Check.typeAll(x, "\n\n!");
        x.find();
        Check.due("place() before, with a tape", x.place(), 0);
        Check.due("wrongLine() before, with a tape", x.wrongLine(), 1);
        x.cut();
        Check.due("place() behind", x.place(), 2);
        Check.due("wrongLine() behind", x.wrongLine(), 3);
    }

    /** Promise 5: "The line of that place" */
    private static void lineOfThatPlace() {
        ChunkWords x = Check.cutOf("\n\r\n!");
        Check.due("wrongLine() when wrong", x.wrongLine(), 3);
        Check.typeAll(x, "a");
        Check.due("wrongLine() while the tape grows", x.wrongLine(), 3);
        x.cut();
        Check.due("wrongLine() of the latest", x.wrongLine(), 1);
        Check.due("wrongLine() when right, at its end", Check.cutOf("a\nb\r\n").wrongLine(), 3);
        Check.due("wrongLine() when right, on the last line", Check.cutOf("a\nb").wrongLine(), 2);
        Check.due("wrongLine() before later line ends", Check.cutOf("a\n!\n\n").wrongLine(), 2);
        Check.due("wrongLine() where the numeral begins", Check.cutOf("\n3x\n").wrongLine(), 2);
        Check.due("wrongLine() at the tape's end", Check.cutOf("[[\n\n").wrongLine(), 3);
        x = Check.cutOf("\n\n\n");
        x.cut();
        Check.due("wrongLine() of an empty tape", x.wrongLine(), 1);
        Check.typeAll(x, "\na\r\n!");
        x.cut();
        Check.due("wrongLine() of the next cut: its own line ends are counted", x.wrongLine(), 3);
    }

    /** Promise 6: "How many words there are." */
    private static void howManyWords() {
        for (int count : new int[] {0, 1, 2, 15, 16, 17, 31, 32, 33, 63, 64, 65, 255, 256, 257, 1023, 1024, 1025, 16384}) {
            ChunkWords x = Check.typed("+ ".repeat(count));
            Check.due("cut() of " + count, x.cut(), count);
            Check.due("words() of " + count, x.words(), count);
            for (int i = 0; i < count; i++) {
                Check.due("begin(" + i + ") of " + count, x.begin(i), 2 * i);
            }
            noWordDue(x, count);
            noWordDue(x, -1);
        }
    }

    /** Promises 7 to 11: "BAD when there is none such", "BAD likewise" */
    private static void noWordSuch() {
        ChunkWords x = Check.cutOf("and 'b' 3");
        Check.due("the first word", x.kind(0) + " " + x.line(0) + " " + x.begin(0) + " " + x.length(0), "10 1 0 3");
        Check.due("the last word", x.kind(2) + " " + x.line(2) + " " + x.begin(2) + " " + x.length(2), "2 1 8 1");
        Check.due("the last word's text", x.text(2), 1);
        noWordDue(x, -1);
        noWordDue(x, 3);
        noWordDue(x, 4);
        for (int i : FAR) {
            noWordDue(x, i);
        }
    }

    private static void noWordDue(ChunkWords x, int i) {
        Check.due("kind(" + i + ")", x.kind(i), BAD);
        Check.due("line(" + i + ")", x.line(i), BAD);
        Check.due("begin(" + i + ")", x.begin(i), BAD);
        Check.due("length(" + i + ")", x.length(i), BAD);
        Check.due("text(" + i + ")", x.text(i), BAD);
    }

    /** The same on a new object, behind typing, behind a wrong cut and behind a shorter one. */
    private static void noWordSuchInAnyState() {
        ChunkWords x = new ChunkWords();
        noWordDue(x, 0);
        Check.typeAll(x, "a b c");
        noWordDue(x, 0);
        x.cut();
        noWordDue(x, 3);
        Check.typeAll(x, "d e f g");
        noWordDue(x, 3);
        Check.due("kind(2) while the tape grows", x.kind(2), 1);
        Check.typeBehind(x, " 3x", 7);
        x.cut();
        noWordDue(x, 4);
        Check.typeAll(x, "h");
        x.cut();
        noWordDue(x, 1);
        x.cut();
        noWordDue(x, 0);
    }

    /** Promise 8: "The line of its first byte"; promise 9: "The place of its first byte" */
    private static void lineOfItsFirstByte() {
        ChunkWords x = Check.cutOf("\n[[\r\n\n]]\n\r'\\\n'--[[\n]]+\n\n.5");
        int[] lines = {2, 5, 7, 9};
        int[] begins = {1, 10, 21, 24};
        int[] lengths = {7, 4, 1, 2};
        for (int i = 0; i < 4; i++) {
            Check.due("line(" + i + ")", x.line(i), lines[i]);
            Check.due("begin(" + i + ")", x.begin(i), begins[i]);
            Check.due("length(" + i + ")", x.length(i), lengths[i]);
        }
        Check.typeAll(x, "a\nb");
        x.cut();
        Check.due("line(0) of the next cut", x.line(0), 1);
        Check.due("line(1) of the next cut", x.line(1), 2);
        Check.due("begin(1) of the next cut", x.begin(1), 2);
    }

    /** Promise 10: "How many bytes of the tape it was": with its quotes, brackets and escapes as they are written. */
    private static void bytesOfTheTape() {
        String[] words = {"a", "while", "functions", "0x1p-3", "''", "'\\x41'", "\"\\u{7fffffff}\"", "'\\z  \n '", "[[]]",
            "[==[\r\na\r\n]==]", "+", "//", "...", "'\\\r\n'"};
        for (String word : words) {
            for (String behind : new String[] {"", " b", "\n", "--b"}) {
                String tape = word + behind;
                Check.due("length(0) of " + Check.shown(tape), Check.cutOf(tape).length(0), word.length());
            }
        }
    }

    /** Promise 11: "BAD likewise, and when it has none." */
    private static void noTextOfIt() {
        ChunkWords x = Check.cutOf("a + and 1 [ 'b' ... while ''");
        int[] want = {0, BAD, BAD, 1, BAD, 2, BAD, BAD, 3};
        for (int i = 0; i < want.length; i++) {
            Check.due("text(" + i + ")", x.text(i), want[i]);
        }
    }

    /** Promise 12: "How many texts there are." */
    private static void howManyTexts() {
        for (int count : new int[] {0, 1, 2, 15, 16, 17, 31, 32, 33, 63, 64, 65, 255, 256, 257, 1024, 1025}) {
            StringBuilder tape = new StringBuilder();
            for (int k = 0; k < 2 * count; k++) {
                tape.append('n').append(k % Math.max(count, 1)).append(' ');
            }
            ChunkWords x = Check.cutOf(tape.toString());
            Check.due("texts() of " + count, x.texts(), count);
            for (int k = 0; k < count; k++) {
                Check.due("text(" + k + ") of " + count, x.text(k), k);
                Check.due("text of the same again", x.text(count + k), k);
                Check.due("its bytes", Check.textOf(x, k), "n" + k);
            }
            noTextDue(x, count);
            noTextDue(x, -1);
        }
        Check.due("texts() of words without one", Check.cutOf("+ and - or").texts(), 0);
    }

    private static void noTextDue(ChunkWords x, int text) {
        Check.due("size(" + text + ")", x.size(text), BAD);
        Check.due("at(" + text + ", 0)", x.at(text, 0), BAD);
        Check.due("at(" + text + ", -1)", x.at(text, -1), BAD);
    }

    /** Promise 13: "How many bytes a text has; BAD when there is none such." */
    private static void noTextSuch() {
        ChunkWords x = Check.cutOf("abc '' + 'd\\u{7fffffff}\\z  ' and");
        Check.due("size(0)", x.size(0), 3);
        Check.due("size(1), of an empty text", x.size(1), 0);
        Check.due("size(2)", x.size(2), 7);
        noTextDue(x, 3);
        noTextDue(x, -1);
        for (int text : FAR) {
            noTextDue(x, text);
        }
        Check.typeAll(x, "e");
        x.cut();
        Check.due("size(0) of the next cut", x.size(0), 1);
        noTextDue(x, 1);
    }

    /** Promise 14: "Byte k of a text ..; BAD when there is none such." */
    private static void noByteSuch() {
        ChunkWords x = Check.cutOf("ab '' cde");
        Check.due("the bytes", Check.textOf(x, 0) + Check.textOf(x, 1) + Check.textOf(x, 2), "abcde");
        for (int text = 0; text < 3; text++) {
            int size = x.size(text);
            Check.due("at(" + text + ", " + size + ")", x.at(text, size), BAD);
            Check.due("at(" + text + ", " + (size + 1) + ")", x.at(text, size + 1), BAD);
            Check.due("at(" + text + ", -1)", x.at(text, -1), BAD);
            for (int k : FAR) {
                Check.due("at(" + text + ", " + k + ")", x.at(text, k), BAD);
            }
        }
        for (int text : FAR) {
            for (int k : FAR) {
                Check.due("at(" + text + ", " + k + ")", x.at(text, k), BAD);
            }
        }
        Check.typeAll(x, "f");
        x.cut();
        Check.due("at(0, 0) of a shorter text", x.at(0, 0), 'f');
        Check.due("at(0, 1) of a shorter text", x.at(0, 1), BAD);
    }

    /** Promise 14: "0 .. 255" */
    private static void bytesTo255() {
        StringBuilder tape = new StringBuilder("[[");
        for (char c = 0; c < 256; c++) {
            tape.append(c == '\r' ? '\n' : c == ']' ? '[' : c);
        }
        ChunkWords x = Check.cutOf(tape + "]]");
        Check.due("size of all bytes", x.size(0), 256);
        for (int k = 0; k < 256; k++) {
            Check.due("byte " + k, x.at(0, k), k == '\r' ? '\n' : k == ']' ? '[' : k);
        }
    }

    /** Promise 15: "The number of the text that is the tape, which stays" */
    private static void tapeStays() {
        ChunkWords x = Check.cutOf("a 'bc' 1.5 '\\200\\0'");
        String[] texts = {"a", "bc", "1.5", "\u00c8\0"};
        for (int t = 0; t < texts.length; t++) {
            ChunkWords y = Check.cutOf("a 'bc' 1.5 '\\200\\0'");
            Check.typeAll(y, texts[t]);
            Check.due("find() of " + Check.shown(texts[t]), y.find(), t);
            Check.due("find() once more", y.find(), t);
            Check.due("length of the tape that stays", y.type('!', 1), texts[t].length() + 1);
            Check.due("texts() stay, too", y.texts(), 4);
        }
        Check.typeAll(x, "b");
        Check.due("find() of a beginning", x.find(), BAD);
        Check.due("the tape stays then, too", x.type('c', 1), 2);
        Check.due("find() of all of it", x.find(), 1);
        Check.due("cut of what stayed", x.cut(), 1);
        Check.due("find() behind it, of an empty tape", x.find(), BAD);
    }

    /** Promise 15: "BAD when there is none such." */
    private static void tapeIsNoText() {
        String cut = "name and + 'q' [[r]] 0x1 'AB'";
        for (String none : new String[] {"", "nam", "names", "ame", "Name", "and", "+", "'q'", "[[r]]", "0x", "0x10", "0X1", " q",
            "q ", "q\0", "BA", "A", "nameq", "name ", "\u00ee\u00e1\u00ed\u00e5"}) {
            ChunkWords x = Check.cutOf(cut);
            Check.typeAll(x, none);
            Check.due("find() of " + Check.shown(none), x.find(), BAD);
        }
        ChunkWords x = Check.typed("a");
        Check.due("find() before any cut", x.find(), BAD);
        x = Check.cutOf("a 'bcd");
        Check.typeAll(x, "bcd");
        Check.due("find() of a text that did not end", x.find(), BAD);
        x = Check.cutOf("a 3x");
        Check.typeAll(x, "3x");
        Check.due("find() of a numeral that was not right", x.find(), BAD);
    }

    /** Promise 15 on an empty tape: the empty text is a text like others. */
    private static void emptyTapeAsAText() {
        Check.due("find() of nothing where '' is", Check.cutOf("a ''").find(), 1);
        Check.due("find() of nothing where [[]] is", Check.cutOf("[[\n]] a").find(), 0);
        Check.due("find() of nothing where none is", Check.cutOf("a b").find(), BAD);
        Check.due("find() of nothing behind an empty cut", Check.cutOf("").find(), BAD);
        Check.due("find() of nothing on a new object", new ChunkWords().find(), BAD);
    }

    /** Promise 15 behind a wrong cut, and on a tape as long as there can be. */
    private static void findBesideCut() {
        ChunkWords x = Check.cutOf("a b !");
        Check.typeAll(x, "b");
        Check.due("find() behind a wrong cut", x.find(), 1);
        x.cut();
        Check.due("find() of nothing behind the next cut", x.find(), BAD);
        Check.due("type behind it", x.type('b', 1), 1);
        Check.due("find() in the next cut's texts", x.find(), 0);
        ChunkWords y = Check.cutOf("c".repeat(65536));
        Check.typeAll(y, "c".repeat(65535));
        Check.due("find() of 65535 bytes", y.find(), BAD);
        Check.due("the last byte", y.type('c', 1), 65536);
        Check.due("find() of 65536 bytes", y.find(), 0);
    }
}
