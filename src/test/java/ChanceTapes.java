import java.util.Random;

/** Tapes put together from pieces by chance: wild ones, most of them wrong, and calm ones, most of them right. */
final class ChanceTapes {
    private static final String[] WILD = {"\n", "\r", "\r\n", "\n\r", " ", "\t", "\u000b", "\f", "a", "e", "E", "p",
        "P", "x", "_", "z", "and", "function", "while", "end", "elseif", "0", "1", "9", "25", "0x", "0X", ".", "..",
        "1e", "0x1p", "+", "-", "--", "--[[", "--[=[", "[", "[[", "[=[", "[==[", "[=", "]", "]]", "]=]", "]==]", "=",
        "==", "~", "<", ">", "/", ":", ";", ",", "(", "{", "}", "#", "'", "\"", "'", "\"", "\\", "\\n", "\\z", "\\x",
        "\\x4", "\\x41", "\\2", "\\25", "\\255", "\\300", "\\u", "\\u{", "\\u{7f}", "\\u{80}", "\\u{7fffffff}",
        "\\u{80000000}", "\\u{20ac}", "\\'", "\\\"", "\\\\", "\\\n", "\\\r\n", "!", "$", "\0", "\u0080", "\u00ff", "ab",
        "'ab'", "\"ab\"", "[[ab]]", "12.5", "3..2", "f", "F", "g"};

    private static final String[] CALM = {" ", "\n", "\r\n", "x", "y1", "and", "not", "12", "0xfF", "0x1p-3", ".5", "1e+3",
        "'a\\65b'", "\"\\u{7ff}\"", "[[\nlong]]", "[=[ ]] ]=]", "-- note\n", "--[[ note\n]]", "+", "==", "~=", "...",
        "..", "::", "(", ")", " ", " ", "''", "'x'", "\"12\"", "'\\z  \n x'"};

    private ChanceTapes() {
    }

    static String of(Random chance, boolean calm, int count) {
        String[] from = calm ? CALM : WILD;
        StringBuilder all = new StringBuilder();
        for (int k = 0; k < count; k++) {
            all.append(from[chance.nextInt(from.length)]);
        }
        return all.toString();
    }
}
