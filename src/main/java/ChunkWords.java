import java.util.Arrays;

/**
 * The words of a text in a small language, each with its line and place, and
 * each different text kept once; or where, and why, the text cannot go on.
 */
public final class ChunkWords {
    public static final int BAD = -1;
    public static final int FULL = -3;

    private final Cutter cutter;
    private final Tape tape;
    private final WordRows found;
    private final TextRows kept;

    public ChunkWords() {
        cutter = new Cutter();
        tape = cutter.tape;
        found = cutter.found;
        kept = cutter.kept;
    }

    public int type(long bytes, int n) {
        if (n < 1 || n > 8) {
            return BAD;
        }
        if (tape.count + n > Tape.LIMIT) {
            return FULL;
        }
        for (int k = n - 1; k >= 0; k--) {
            tape.append((int) (bytes >>> (8 * k)) & 255);
        }
        return tape.count;
    }

    public int cut() {
        int answer = cutter.run();
        tape.count = 0;
        return answer;
    }

    public int place() {
        return cutter.stopPlace;
    }

    public int wrongLine() {
        return cutter.stopLine;
    }

    public int words() {
        return found.count;
    }

    public int kind(int i) {
        return found.has(i) ? found.kinds[i] : BAD;
    }

    public int line(int i) {
        return found.has(i) ? found.lines[i] : BAD;
    }

    public int begin(int i) {
        return found.has(i) ? found.begins[i] : BAD;
    }

    public int length(int i) {
        return found.has(i) ? found.lengths[i] : BAD;
    }

    public int text(int i) {
        return found.has(i) ? found.textNumbers[i] : BAD;
    }

    public int texts() {
        return kept.count;
    }

    public int size(int text) {
        return kept.has(text) ? kept.sizes[text] : BAD;
    }

    public int at(int text, int k) {
        return kept.has(text) ? kept.byteOf(text, k) : BAD;
    }

    public int find() {
        return kept.numberOf(tape.row, tape.count);
    }

    /** How rows grow: doubled, so that all copies of a row together stay below twice its last length. */
    private static final class Growth {
        static int[] ints(int[] row, int need, int limit) {
            return need <= row.length ? row : Arrays.copyOf(row, wider(row.length, need, limit));
        }

        static byte[] bytes(byte[] row, int need, int limit) {
            return need <= row.length ? row : Arrays.copyOf(row, wider(row.length, need, limit));
        }

        private static int wider(int now, int need, int limit) {
            return Math.max(need, Math.min(2 * now, limit));
        }
    }

    /** What a single byte can be; END, which stands for the tape's end, is none of it. */
    private static final class Sign {
        static final int END = -1;

        static boolean isLineEnd(int b) {
            return b == 10 || b == 13;
        }

        static boolean isBlank(int b) {
            return b == 32 || (b >= 9 && b <= 13);
        }

        static boolean isDigit(int b) {
            return b >= '0' && b <= '9';
        }

        static boolean isLetter(int b) {
            return (b >= 'a' && b <= 'z') || (b >= 'A' && b <= 'Z') || b == '_';
        }

        static boolean isSign(int b) {
            return b == '+' || b == '-';
        }

        static boolean isQuote(int b) {
            return b == '\'' || b == '"';
        }

        /** True for the small letter that is named and for its capital. */
        static boolean isEither(int b, int small) {
            return b == small || b == small - 32;
        }

        /** The value of a digit with 16, or -1. */
        static int hexValue(int b) {
            if (isDigit(b)) {
                return b - '0';
            }
            if (b >= 'a' && b <= 'f') {
                return b - 'a' + 10;
            }
            return b >= 'A' && b <= 'F' ? b - 'A' + 10 : -1;
        }

        /** The byte that a backslash and this one mean together, or -1. */
        static int escaped(int b) {
            switch (b) {
                case 'a': return 7;
                case 'b': return 8;
                case 'f': return 12;
                case 'n': return 10;
                case 'r': return 13;
                case 't': return 9;
                case 'v': return 11;
                case '\\':
                case '\'':
                case '"': return b;
                default: return -1;
            }
        }
    }

    /** The kinds of operators; 0 where there is none. */
    private static final class Operator {
        static int ofOne(int a) {
            switch (a) {
                case '+': return 40;
                case '-': return 41;
                case '*': return 42;
                case '/': return 43;
                case '%': return 44;
                case '^': return 45;
                case '#': return 46;
                case '&': return 47;
                case '~': return 48;
                case '|': return 49;
                case '<': return 57;
                case '>': return 58;
                case '=': return 59;
                case '(': return 60;
                case ')': return 61;
                case '{': return 62;
                case '}': return 63;
                case '[': return 64;
                case ']': return 65;
                case ';': return 67;
                case ':': return 68;
                case ',': return 69;
                case '.': return 70;
                default: return 0;
            }
        }

        static int ofTwo(int a, int b) {
            if (a == b) {
                return ofTwice(a);
            }
            if (b != '=') {
                return 0;
            }
            switch (a) {
                case '~': return 54;
                case '<': return 55;
                case '>': return 56;
                default: return 0;
            }
        }

        private static int ofTwice(int a) {
            switch (a) {
                case '<': return 50;
                case '>': return 51;
                case '/': return 52;
                case '=': return 53;
                case ':': return 66;
                case '.': return 71;
                default: return 0;
            }
        }

        static int ofThree(int a, int b, int c) {
            return a == '.' && b == '.' && c == '.' ? 72 : 0;
        }
    }

    /** The names that are no names; each has eight bytes at most, and so one long holds it. */
    private static final class Reserved {
        static final int FIRST_KIND = 10;
        static final int LONGEST = 8;

        private static final long[] PACKED = {
            0x616e64L, // and
            0x627265616bL, // break
            0x646fL, // do
            0x656c7365L, // else
            0x656c73656966L, // elseif
            0x656e64L, // end
            0x66616c7365L, // false
            0x666f72L, // for
            0x66756e6374696f6eL, // function
            0x676f746fL, // goto
            0x6966L, // if
            0x696eL, // in
            0x6c6f63616cL, // local
            0x6e696cL, // nil
            0x6e6f74L, // not
            0x6f72L, // or
            0x726570656174L, // repeat
            0x72657475726eL, // return
            0x7468656eL, // then
            0x74727565L, // true
            0x756e74696cL, // until
            0x7768696c65L, // while
        };

        /** The kind of the reserved name with these bytes, or 0. */
        static int kindOf(long packed) {
            for (int k = 0; k < PACKED.length; k++) {
                if (PACKED[k] == packed) {
                    return FIRST_KIND + k;
                }
            }
            return 0;
        }
    }

    /** The bytes that are typed. */
    private static final class Tape {
        static final int LIMIT = 65536;

        private byte[] row = new byte[64];
        private int count = 0;

        void append(int b) {
            if (count >= LIMIT) {
                return;
            }
            row = Growth.bytes(row, count + 1, LIMIT);
            row[count] = (byte) b;
            count++;
        }

        /** Sign.END outside the tape, so that a look ahead needs no test of its own. */
        int byteAt(int place) {
            return place >= 0 && place < count ? row[place] & 255 : Sign.END;
        }

        /** How many bytes the line end at this place has; 0 where there is none. */
        int lineEndWidth(int place) {
            int b = byteAt(place);
            if (!Sign.isLineEnd(b)) {
                return 0;
            }
            int next = byteAt(place + 1);
            return Sign.isLineEnd(next) && next != b ? 2 : 1;
        }

        int equalSignsAt(int place) {
            int q = place;
            while (q < count && byteAt(q) == '=') {
                q++;
            }
            return q - place;
        }
    }

    /** The words of the latest cut, a row for each thing that is told of them. */
    private static final class WordRows {
        static final int LIMIT = 16384;

        private int[] kinds = new int[16];
        private int[] lines = new int[16];
        private int[] begins = new int[16];
        private int[] lengths = new int[16];
        private int[] textNumbers = new int[16];
        private int count = 0;

        boolean has(int i) {
            return i >= 0 && i < count;
        }

        boolean isFull() {
            return count >= LIMIT;
        }

        void add(int kindOfIt, int lineOfIt, int from, int to, int textNumber) {
            if (count >= kinds.length) {
                return;
            }
            kinds[count] = kindOfIt;
            lines[count] = lineOfIt;
            begins[count] = from;
            lengths[count] = to - from;
            textNumbers[count] = textNumber;
            count++;
        }

        /** Room for one word more; the rows are always of one length. */
        void makeRoom() {
            if (count < kinds.length || isFull()) {
                return;
            }
            kinds = Growth.ints(kinds, count + 1, LIMIT);
            lines = Growth.ints(lines, count + 1, LIMIT);
            begins = Growth.ints(begins, count + 1, LIMIT);
            lengths = Growth.ints(lengths, count + 1, LIMIT);
            textNumbers = Growth.ints(textNumbers, count + 1, LIMIT);
        }
    }

    /**
     * The different texts of the latest cut. A new one is put together just
     * behind the kept ones, and stays there only if it is none of them.
     */
    private static final class TextRows {
        /** Each text is a word's, so there are no more of them. */
        static final int LIMIT = WordRows.LIMIT;
        static final int SLOTS = 256;

        private byte[] pool = new byte[64];
        private int[] starts = new int[16];
        private int[] sizes = new int[16];
        private int[] hashes = new int[16];
        private int[] nexts = new int[16];
        private int count = 0;
        private int used = 0;
        private int fresh = 0;
        /** The newest text of each slot; nexts leads on to the older ones. */
        private final int[] heads = new int[SLOTS];

        /** No text is longer than what it is written with, so all of a tape's texts fit where the tape does. */
        void clearFor(int tapeBytes) {
            pool = Growth.bytes(pool, tapeBytes, Tape.LIMIT);
            Arrays.fill(heads, BAD);
            count = 0;
            used = 0;
            fresh = 0;
        }

        boolean has(int number) {
            return number >= 0 && number < count;
        }

        int byteOf(int number, int k) {
            if (!has(number) || k < 0 || k >= sizes[number]) {
                return BAD;
            }
            int place = starts[number] + k;
            return place < pool.length ? pool[place] & 255 : BAD;
        }

        void startNew() {
            fresh = 0;
        }

        void put(int b) {
            int place = used + fresh;
            if (place < pool.length) {
                pool[place] = (byte) b;
                fresh++;
            }
        }

        /** A number below 2^31 as 1 .. 6 bytes. */
        void putCode(int v) {
            if (v < 128) {
                put(v);
                return;
            }
            int tail = 1;
            while (tail < 5 && v >= 1 << (5 * tail + 6)) {
                tail++;
            }
            int ones = (0xff00 >> (tail + 1)) & 255;
            put(ones | (v >> (6 * tail)));
            for (int k = tail - 1; k >= 0; k--) {
                put(128 | ((v >> (6 * k)) & 63));
            }
        }

        /** The number of the text that was put together. */
        int keep() {
            int hash = hashOf(pool, used, fresh);
            int known = search(hash, pool, used, fresh);
            if (known != BAD || count >= starts.length) {
                return known;
            }
            int slot = slotOf(hash);
            starts[count] = used;
            sizes[count] = fresh;
            hashes[count] = hash;
            nexts[count] = heads[slot];
            heads[slot] = count;
            used += fresh;
            fresh = 0;
            count++;
            return count - 1;
        }

        /** The number of the text that is the first bytes of a row, or BAD. */
        int numberOf(byte[] row, int size) {
            return search(hashOf(row, 0, size), row, 0, size);
        }

        private int search(int hash, byte[] row, int from, int size) {
            int number = heads[slotOf(hash)];
            for (int k = 0; k < count && has(number); k++) {
                if (hashes[number] == hash && isSame(number, row, from, size)) {
                    return number;
                }
                number = nexts[number];
            }
            return BAD;
        }

        private boolean isSame(int number, byte[] row, int from, int size) {
            int start = starts[number];
            if (sizes[number] != size || start + size > pool.length || from + size > row.length) {
                return false;
            }
            for (int k = 0; k < size; k++) {
                if (pool[start + k] != row[from + k]) {
                    return false;
                }
            }
            return true;
        }

        private static int hashOf(byte[] row, int from, int size) {
            int hash = size;
            for (int k = from; k < from + size && k < row.length; k++) {
                hash = hash * 31 + row[k];
            }
            return hash;
        }

        private static int slotOf(int hash) {
            return (hash ^ (hash >>> 8) ^ (hash >>> 16)) & (SLOTS - 1);
        }

        /** Room for one text more; the rows are always of one length. */
        void makeRoom() {
            if (count < starts.length || count >= LIMIT) {
                return;
            }
            starts = Growth.ints(starts, count + 1, LIMIT);
            sizes = Growth.ints(sizes, count + 1, LIMIT);
            hashes = Growth.ints(hashes, count + 1, LIMIT);
            nexts = Growth.ints(nexts, count + 1, LIMIT);
        }
    }

    /** Goes over the tape once, from the left; p is the place that comes next. */
    private static final class Cutter {
        private static final int NAME = 1;
        private static final int NUMERAL = 2;
        private static final int TEXT = 3;

        private static final int NO_WORD = 1;
        private static final int NOT_RIGHT = 2;
        private static final int NO_ESCAPE = 3;
        private static final int NO_END = 4;
        private static final int NO_BRACKET = 5;
        private static final int TOO_MANY = 6;

        /** What can be at a place; from A_NAME on it begins a word. */
        private static final int NOTHING = 0;
        private static final int A_BLANK = 1;
        private static final int A_COMMENT = 2;
        private static final int A_NAME = 3;
        private static final int A_NUMERAL = 4;
        private static final int A_QUOTE = 5;
        private static final int A_BRACKET = 6;
        private static final int AN_OPERATOR = 7;

        private final Tape tape = new Tape();
        private final WordRows found = new WordRows();
        private final TextRows kept = new TextRows();
        private int p = 0;
        private int why = 0;
        private int stopPlace = 0;
        private int stopLine = 1;
        private int countedTo = 0;
        private int linesThere = 1;
        private int wordPlace = 0;
        private int wordLine = 1;

        /** How many words there are, or -why. */
        int run() {
            startAnew();
            // every step takes a byte at least, or stops
            for (int step = 0; step < tape.count && p < tape.count && why == 0; step++) {
                int b = tape.byteAt(p);
                int sort = sortOf(b, tape.byteAt(p + 1));
                if (sort >= A_NAME) {
                    startWord();
                }
                if (why == 0) {
                    switch (sort) {
                        case A_BLANK: p++; break;
                        case A_COMMENT: passComment(); break;
                        case A_NAME: readName(); break;
                        case A_NUMERAL: readNumeral(); break;
                        case A_QUOTE: readQuoted(b); break;
                        case A_BRACKET: readBracket(); break;
                        case AN_OPERATOR: readOperator(); break;
                        default: stop(NO_WORD, p); break;
                    }
                }
            }
            if (why == 0) {
                stopPlace = tape.count;
            }
            stopLine = lineOf(stopPlace);
            return why == 0 ? found.count : -why;
        }

        private void startAnew() {
            found.count = 0;
            kept.clearFor(tape.count);
            p = 0;
            why = 0;
            countedTo = 0;
            linesThere = 1;
        }

        private static int sortOf(int b, int next) {
            if (Sign.isBlank(b)) {
                return A_BLANK;
            }
            if (Sign.isLetter(b)) {
                return A_NAME;
            }
            if (Sign.isDigit(b) || (b == '.' && Sign.isDigit(next))) {
                return A_NUMERAL;
            }
            if (b == '-' && next == '-') {
                return A_COMMENT;
            }
            if (Sign.isQuote(b)) {
                return A_QUOTE;
            }
            if (b == '[') {
                return A_BRACKET;
            }
            return Operator.ofOne(b) != 0 ? AN_OPERATOR : NOTHING;
        }

        private void startWord() {
            if (found.isFull()) {
                stop(TOO_MANY, p);
                return;
            }
            found.makeRoom();
            kept.makeRoom();
            wordPlace = p;
            wordLine = lineOf(p);
        }

        private void stop(int because, int place) {
            why = because;
            stopPlace = place;
        }

        /** Line ends are counted on from where the last call stopped: the places that are asked for only go up. */
        private int lineOf(int place) {
            while (countedTo < place) {
                int width = tape.lineEndWidth(countedTo);
                if (width > 0) {
                    linesThere++;
                }
                countedTo += Math.max(width, 1);
            }
            return linesThere;
        }

        private void passComment() {
            int open = p + 2;
            int equalSigns = tape.equalSignsAt(open + 1);
            if (tape.byteAt(open) == '[' && tape.byteAt(open + 1 + equalSigns) == '[') {
                int close = closingPlace(open + 2 + equalSigns, equalSigns);
                p = close + 2 + equalSigns;
                return;
            }
            p = open;
            while (p < tape.count && !Sign.isLineEnd(tape.byteAt(p))) {
                p++;
            }
        }

        /** The word that was started goes to before p. */
        private void endWord(int kindOfIt, int textNumber) {
            found.add(kindOfIt, wordLine, wordPlace, p, textNumber);
        }

        private void endAsWritten(int kindOfIt) {
            kept.startNew();
            for (int q = wordPlace; q < p; q++) {
                kept.put(tape.byteAt(q));
            }
            endWord(kindOfIt, kept.keep());
        }

        private void readName() {
            long packed = 0;
            while (p < tape.count && isNamePart(tape.byteAt(p))) {
                packed = (packed << 8) | tape.byteAt(p);
                p++;
            }
            int reserved = p - wordPlace <= Reserved.LONGEST ? Reserved.kindOf(packed) : 0;
            if (reserved != 0) {
                endWord(reserved, BAD);
            } else {
                endAsWritten(NAME);
            }
        }

        private static boolean isNamePart(int b) {
            return Sign.isLetter(b) || Sign.isDigit(b);
        }

        private void readNumeral() {
            boolean hex = tape.byteAt(p) == '0' && Sign.isEither(tape.byteAt(p + 1), 'x');
            int mark = hex ? 'p' : 'e';
            while (p < tape.count && isNumeralPart(tape.byteAt(p), tape.byteAt(p - 1), mark)) {
                p++;
            }
            int rest = passDigits(hex ? wordPlace + 2 : wordPlace, hex);
            if (rest != BAD && isExponentOrNothing(rest, mark)) {
                endAsWritten(NUMERAL);
            } else {
                stop(NOT_RIGHT, wordPlace);
            }
        }

        /** The byte before the numeral does no harm: its first one is no sign. */
        private static boolean isNumeralPart(int b, int before, int mark) {
            return isNamePart(b) || b == '.' || (Sign.isSign(b) && Sign.isEither(before, mark));
        }

        /** Where the digits, with at most one point, end in the numeral that ends at p; BAD if they are not right. */
        private int passDigits(int from, boolean hex) {
            int digits = 0;
            int points = 0;
            int q = from;
            while (q < p && (tape.byteAt(q) == '.' || isNumeralDigit(tape.byteAt(q), hex))) {
                if (tape.byteAt(q) == '.') {
                    points++;
                } else {
                    digits++;
                }
                q++;
            }
            return digits > 0 && points <= 1 ? q : BAD;
        }

        private static boolean isNumeralDigit(int b, boolean hex) {
            return hex ? Sign.hexValue(b) >= 0 : Sign.isDigit(b);
        }

        private boolean isExponentOrNothing(int from, int mark) {
            if (from >= p) {
                return true;
            }
            if (!Sign.isEither(tape.byteAt(from), mark)) {
                return false;
            }
            int first = from + 1;
            if (first < p && Sign.isSign(tape.byteAt(first))) {
                first++;
            }
            int q = first;
            while (q < p && Sign.isDigit(tape.byteAt(q))) {
                q++;
            }
            return q == p && q > first;
        }

        private void readOperator() {
            int a = tape.byteAt(p);
            int b = tape.byteAt(p + 1);
            int kindOfIt = Operator.ofThree(a, b, tape.byteAt(p + 2));
            int width = 3;
            if (kindOfIt == 0) {
                kindOfIt = Operator.ofTwo(a, b);
                width = 2;
            }
            if (kindOfIt == 0) {
                kindOfIt = Operator.ofOne(a);
                width = 1;
            }
            p += width;
            endWord(kindOfIt, BAD);
        }

        private void readBracket() {
            int equalSigns = tape.equalSignsAt(p + 1);
            int behind = p + 1 + equalSigns;
            if (tape.byteAt(behind) == '[') {
                readLongText(equalSigns);
            } else if (equalSigns > 0) {
                stop(NO_BRACKET, behind);
            } else {
                readOperator();
            }
        }

        private void readLongText(int equalSigns) {
            int inside = p + 2 + equalSigns;
            int close = closingPlace(inside, equalSigns);
            if (why != 0) {
                return;
            }
            kept.startNew();
            int q = inside + tape.lineEndWidth(inside);
            while (q < close) {
                int width = tape.lineEndWidth(q);
                kept.put(width > 0 ? 10 : tape.byteAt(q));
                q += Math.max(width, 1);
            }
            p = close + 2 + equalSigns;
            endWord(TEXT, kept.keep());
        }

        /** Where the closing bracket begins; stops at the tape's end when there is none. */
        private int closingPlace(int from, int equalSigns) {
            for (int q = from; q < tape.count; q++) {
                if (tape.byteAt(q) == ']' && tape.equalSignsAt(q + 1) == equalSigns
                        && tape.byteAt(q + 1 + equalSigns) == ']') {
                    return q;
                }
            }
            stop(NO_END, tape.count);
            return tape.count;
        }

        private void readQuoted(int quote) {
            p++;
            kept.startNew();
            for (int step = 0; step < tape.count && p < tape.count && tape.byteAt(p) != quote && why == 0; step++) {
                int b = tape.byteAt(p);
                p++;
                if (b == '\\') {
                    passEscape(tape.byteAt(p));
                } else if (Sign.isLineEnd(b)) {
                    stop(NO_END, p - 1);
                } else {
                    kept.put(b);
                }
            }
            if (why == 0 && p >= tape.count) {
                stop(NO_END, tape.count);
            }
            if (why == 0) {
                p++;
                endWord(TEXT, kept.keep());
            }
        }

        /** What is behind a backslash, b being its first byte, at p. */
        private void passEscape(int b) {
            if (Sign.escaped(b) >= 0) {
                kept.put(Sign.escaped(b));
                p++;
            } else if (Sign.isLineEnd(b)) {
                kept.put(10);
                p += tape.lineEndWidth(p);
            } else if (b == 'z') {
                passBlanks();
            } else if (b == 'x') {
                passTwoDigits();
            } else if (Sign.isDigit(b)) {
                passDecimal();
            } else if (b == 'u') {
                passCode();
            } else {
                stopInEscape(p);
            }
        }

        /** A tape that ends too early could still have become an escape, so it only does not end. */
        private void stopInEscape(int place) {
            stop(place < tape.count ? NO_ESCAPE : NO_END, place);
        }

        private void passBlanks() {
            p++;
            while (p < tape.count && Sign.isBlank(tape.byteAt(p))) {
                p++;
            }
        }

        private void passTwoDigits() {
            int high = Sign.hexValue(tape.byteAt(p + 1));
            int low = Sign.hexValue(tape.byteAt(p + 2));
            if (high < 0) {
                stopInEscape(p + 1);
            } else if (low < 0) {
                stopInEscape(p + 2);
            } else {
                kept.put(high * 16 + low);
                p += 3;
            }
        }

        private void passDecimal() {
            int value = 0;
            int q = p;
            while (q < p + 3 && Sign.isDigit(tape.byteAt(q))) {
                value = value * 10 + tape.byteAt(q) - '0';
                q++;
            }
            if (value > 255) {
                stop(NO_ESCAPE, p);
                return;
            }
            kept.put(value);
            p = q;
        }

        private void passCode() {
            if (tape.byteAt(p + 1) != '{') {
                stopInEscape(p + 1);
                return;
            }
            int first = p + 2;
            int q = first;
            int v = 0;
            while (q < tape.count && Sign.hexValue(tape.byteAt(q)) >= 0) {
                if (v > 0x7ffffff) {
                    stop(NO_ESCAPE, q);
                    return;
                }
                v = v * 16 + Sign.hexValue(tape.byteAt(q));
                q++;
            }
            if (q == first || tape.byteAt(q) != '}') {
                stopInEscape(q);
                return;
            }
            kept.putCode(v);
            p = q + 1;
        }
    }
}
