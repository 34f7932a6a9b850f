import java.nio.charset.StandardCharsets;

/** What the tests share: telling wrong answers, and typing a text of the characters 0 to 255. */
final class Check {
    private static int calls = 0;
    private static int wrong = 0;

    private Check() {
    }

    static void due(String call, long got, long want) {
        calls++;
        if (got != want) {
            wrong++;
            System.out.println(call + " answered " + got + ", due is " + want);
        }
    }

    static void due(String call, String got, String want) {
        calls++;
        if (!got.equals(want)) {
            wrong++;
            System.out.println(call + " answered " + shown(got) + ", due is " + shown(want));
        }
    }

    static void end() {
        System.out.println(calls + " answers, " + wrong + " of them wrong");
        System.exit(wrong == 0 ? 0 : 1);
    }

    /** The text on a tape, as few calls as there can be. */
    static void typeAll(ChunkWords x, String text) {
        byte[] bytes = text.getBytes(StandardCharsets.ISO_8859_1);
        for (int from = 0; from < bytes.length; from += 8) {
            int n = Math.min(8, bytes.length - from);
            long packed = 0;
            for (int k = 0; k < n; k++) {
                packed = packed << 8 | bytes[from + k] & 255;
            }
            due("type behind " + from, x.type(packed, n), from + n);
        }
    }

    static ChunkWords typed(String text) {
        ChunkWords x = new ChunkWords();
        typeAll(x, text);
        return x;
    }

    static ChunkWords cutOf(String text) {
        ChunkWords x = typed(text);
        x.cut();
        return x;
    }

    static String textOf(ChunkWords x, int number) {
        StringBuilder all = new StringBuilder();
        for (int k = 0; k < x.size(number); k++) {
            all.append((char) x.at(number, k));
        }
        return all.toString();
    }

    static String shown(String text) {
        StringBuilder all = new StringBuilder("\"");
        for (char c : text.toCharArray()) {
            if (c < 32 || c > 126) {
                all.append(String.format("\\x%02x", (int) c));
            } else {
                all.append(c);
            }
        }
        return all.append('"').toString();
    }
}
