import java.nio.charset.StandardCharsets;

/** What the tests share: telling wrong answers, and typing a text of the characters 0 to 255. */
final class Check {
    private static final int SHOWN = 120;
    private static int calls = 0;
    private static int wrong = 0;

    private Check() {
    }

    static void due(String call, long got, long want) {
        calls++;
        if (got != want) {
            wrong++;
            System.out.println(call + " answered " + got + ", due is " + want);
        }
    }

    static void due(String call, String got, String want) {
        calls++;
        if (!got.equals(want)) {
            wrong++;
            System.out.println(call + " answered " + shown(got) + ", due is " + shown(want));
        }
    }

    static void end() {
        System.out.println(calls + " answers, " + wrong + " of them wrong");
        System.exit(wrong == 0 ? 0 : 1);
    }

    /** The text on a tape, as few calls as there can be. */
    static void typeAll(ChunkWords x, String text) {
        typeBehind(x, text, 0);
    }

    /** The text behind so many bytes that are on the tape already. */
    static void typeBehind(ChunkWords x, String text, int before) {
        byte[] bytes = text.getBytes(StandardCharsets.ISO_8859_1);
        for (int from = 0; from < bytes.length; from += 8) {
            int n = Math.min(8, bytes.length - from);
            long packed = 0;
            for (int k = 0; k < n; k++) {
                packed = packed << 8 | bytes[from + k] & 255;
            }
            due("type behind " + (before + from), x.type(packed, n), before + from + n);
        }
    }

    static ChunkWords typed(String text) {
        ChunkWords x = new ChunkWords();
        typeAll(x, text);
        return x;
    }

    static ChunkWords cutOf(String text) {
        ChunkWords x = typed(text);
        x.cut();
        return x;
    }

    static String textOf(ChunkWords x, int number) {
        StringBuilder all = new StringBuilder();
        for (int k = 0; k < x.size(number); k++) {
            all.append((char) x.at(number, k));
        }
        return all.toString();
    }

    /** The kinds of all words, each with a blank behind it. */
    static String kinds(ChunkWords x) {
        StringBuilder all = new StringBuilder();
        for (int i = 0; i < x.words(); i++) {
            all.append(x.kind(i)).append(' ');
        }
        return all.toString();
    }

    /** The tape is right, and has words of these kinds. */
    static void kindsDue(String tape, String want) {
        ChunkWords x = typed(tape);
        int answer = x.cut();
        due("kinds of " + shown(tape), kinds(x), want);
        due("cut of " + shown(tape), answer, x.words());
    }

    /** The tape is one word, with this text. */
    static void textDue(String tape, int kind, String want) {
        ChunkWords x = typed(tape);
        String told = shown(tape);
        due("cut of " + told, x.cut(), 1);
        due("kind of " + told, x.kind(0), kind);
        due("begin of " + told, x.begin(0), 0);
        due("length of " + told, x.length(0), tape.length());
        due("text of " + told, x.text(0), 0);
        due("bytes of " + told, textOf(x, 0), want);
        due("place of " + told, x.place(), tape.length());
    }

    /** It is wrong there, and because of this; so many words are before that. */
    static void wrongDue(String tape, int why, int place, int words) {
        ChunkWords x = typed(tape);
        String told = shown(tape);
        due("cut of " + told, x.cut(), -why);
        due("place of " + told, x.place(), place);
        due("words of " + told, x.words(), words);
    }

    /** It is wrong on this line, too. */
    static void wrongDue(String tape, int why, int place, int line, int words) {
        wrongDue(tape, why, place, words);
        due("wrongLine of " + shown(tape), cutOf(tape).wrongLine(), line);
    }

    static String shown(String text) {
        StringBuilder all = new StringBuilder("\"");
        for (int k = 0; k < text.length() && k < SHOWN; k++) {
            char c = text.charAt(k);
            if (c < 32 || c > 126) {
                all.append(String.format("\\x%02x", (int) c));
            } else {
                all.append(c);
            }
        }
        return all.append(text.length() > SHOWN ? ".. and more" : "\"").toString();
    }
}
