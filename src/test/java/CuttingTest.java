/** The terms of cutting: the kinds of words, texts, and where and why it is wrong. */
public final class CuttingTest {
    public static void main(String[] args) {
        names();
        operators();
        operatorsInARow();
        numerals();
        numeralsThatEndEarly();
        numeralsThatAreNotRight();
        escapes();
        codes();
        escapesThatAreNone();
        quotes();
        longBrackets();
        comments();
        bytesWithoutAWord();
        brackets();
        textsWithoutEnd();
        textsThatAreAlike();
        manyTexts();
        Check.end();
    }

    private static void names() {
        String[] kept = ("and break do else elseif end false for function goto if in local nil not or repeat return"
                + " then true until while").split(" ");
        Check.due("how many names are kept", kept.length, 22);
        for (int k = 0; k < kept.length; k++) {
            Check.kindsDue(kept[k], 10 + k + " ");
            Check.due("text of " + kept[k], Check.cutOf(kept[k]).texts(), 0);
            Check.textDue(kept[k] + "_", 1, kept[k] + "_");
            Check.textDue("x" + kept[k], 1, "x" + kept[k]);
            Check.textDue(kept[k] + "1", 1, kept[k] + "1");
            Check.textDue(kept[k].toUpperCase(), 1, kept[k].toUpperCase());
            Check.textDue("'" + kept[k] + "'", 3, kept[k]);
        }
        Check.textDue("_", 1, "_");
        Check.textDue("azAZ_09", 1, "azAZ_09");
        Check.textDue("functions", 1, "functions");
        Check.textDue("xfunction", 1, "xfunction");
        Check.textDue("a_rather_long_name_with_more_than_eight_bytes", 1, "a_rather_long_name_with_more_than_eight_bytes");
        Check.kindsDue("a.b", "1 70 1 ");
        Check.kindsDue("a'b'", "1 3 ");
    }

    private static final String OPERATORS =
            "+ - * / % ^ # & ~ | << >> // == ~= <= >= < > = ( ) { } [ ] :: ; : , . .. ...";

    private static void operators() {
        String[] all = OPERATORS.split(" ");
        Check.due("how many operators there are", all.length, 33);
        for (int k = 0; k < all.length; k++) {
            ChunkWords x = Check.typed(all[k]);
            Check.due("cut of " + all[k], x.cut(), 1);
            Check.due("kind of " + all[k], x.kind(0), 40 + k);
            Check.due("length of " + all[k], x.length(0), all[k].length());
            Check.due("text of " + all[k], x.text(0), ChunkWords.BAD);
            Check.due("texts of " + all[k], x.texts(), 0);
            Check.kindsDue("x" + all[k] + "y", "1 " + (40 + k) + " 1 ");
        }
    }

    private static void operatorsInARow() {
        Check.kindsDue("===", "53 59 ");
        Check.kindsDue("====", "53 53 ");
        Check.kindsDue("~==", "54 59 ");
        Check.kindsDue("=~", "59 48 ");
        Check.kindsDue("<<=", "50 59 ");
        Check.kindsDue("<=<", "55 57 ");
        Check.kindsDue(">>>", "51 58 ");
        Check.kindsDue("<>", "57 58 ");
        Check.kindsDue("///", "52 43 ");
        Check.kindsDue(":::", "66 68 ");
        Check.kindsDue("::::", "66 66 ");
        Check.kindsDue(".. .", "71 70 ");
        Check.kindsDue("....", "72 70 ");
        Check.kindsDue(".....", "72 71 ");
        Check.kindsDue("..a", "71 1 ");
        Check.kindsDue("..5", "71 2 ");
        Check.kindsDue("...5", "72 2 ");
        Check.kindsDue("....5", "72 2 ");
        Check.kindsDue("- -", "41 41 ");
        Check.kindsDue("-+-", "41 40 41 ");
        Check.kindsDue("~~", "48 48 ");
        Check.kindsDue("+=", "40 59 ");
        Check.kindsDue("[]", "64 65 ");
        Check.kindsDue("]]", "65 65 ");
        Check.kindsDue("]=]", "65 59 65 ");
        Check.kindsDue("[ [", "64 64 ");
    }

    private static void numerals() {
        for (String right : new String[] {"0", "3", "0123456789", "3.", "3.5", ".5", "3e5", "3E5", "3e+5", "3e-5",
            "3.e5", ".5E-10", "0e0", "0xA", "0Xa", "0x0123456789abcdefABCDEF", "0x.1", "0x1.", "0xA.8", "0x1p4",
            "0x1P4", "0x1p+4", "0x1p-4", "0x.8p0", "0xep1", "0xe", "0xE", "00", "08", "1e09", "0x1.p1"}) {
            Check.textDue(right, 2, right);
        }
    }

    private static void numeralsThatEndEarly() {
        Check.kindsDue("3+5", "2 40 2 ");
        Check.kindsDue("3-5", "2 41 2 ");
        Check.kindsDue("3e5+5", "2 40 2 ");
        Check.kindsDue("0xe+1", "2 40 2 ");
        Check.kindsDue("0xE-1", "2 41 2 ");
        Check.kindsDue("0x1p1+1", "2 40 2 ");
        Check.kindsDue("0x1p1-1", "2 41 2 ");
        Check.kindsDue("3--5", "2 ");
        Check.kindsDue("3'a'", "2 3 ");
        Check.kindsDue("3[1]", "2 64 2 65 ");
        Check.kindsDue("a.5", "1 2 ");
        Check.kindsDue("a3", "1 ");
        Check.kindsDue("-3", "41 2 ");
    }

    private static void numeralsThatAreNotRight() {
        for (String wrong : new String[] {"3x", "3_", "3..", "3..2", "3.5.", "1.2.3", ".5.", "3e", "3e+", "3e-", "3e+-5",
            "3e5e5", "3e5.", "3e.5", "3p5", "3a", "0x", "0X", "0x.", "0xg", "0x1..", "0x1.2.3", "0x1p", "0x1p+", "0x1pa",
            "0x1p1.", "0x1p1p1", "0xp1", "0x.p1", "0x_", "0xx1", "00x1", "1x1", ".0x1", "3f", "3and", "1e5a", "1e1e+1",
            "0x1p+-1", "5...", "3ee5", "1_000"}) {
            Check.wrongDue(wrong, 2, 0, 0);
            Check.wrongDue("a " + wrong + " !", 2, 2, 1);
        }
    }

    private static void escapes() {
        Check.textDue("'\\a\\b\\f\\n\\r\\t\\v'", 3, "\7\b\f\n\r\t\u000b");
        Check.textDue("\"\\\\\\'\\\"\"", 3, "\\'\"");
        Check.textDue("'\\\\\\'\\\"'", 3, "\\'\"");
        Check.textDue("'a\\\nb'", 3, "a\nb");
        Check.textDue("'a\\\rb'", 3, "a\nb");
        Check.textDue("'a\\\r\nb'", 3, "a\nb");
        Check.textDue("'a\\\n\rb'", 3, "a\nb");
        Check.textDue("'a\\\n\\\n\\\r'", 3, "a\n\n\n");
        Check.textDue("'a\\z \t\n\u000b\f\r b'", 3, "ab");
        Check.textDue("'a\\zb'", 3, "ab");
        Check.textDue("'a\\z'", 3, "a");
        Check.textDue("'a\\z  \\z \n\n b'", 3, "ab");
        Check.textDue("'\\x00\\x41\\xfF\\xAb1'", 3, "\0A\u00ff\u00ab1");
        Check.textDue("'\\0\\7\\65\\065\\255'", 3, "\0\7AA\u00ff");
        Check.textDue("'\\0651\\2551\\1a\\12b'", 3, "A1\u00ff1\1a\fb");
        Check.textDue("'\\10\\010'", 3, "\n\n");
        Check.textDue("'\\u{41}\\x42\\67D'", 3, "ABCD");
    }

    private static void codes() {
        Check.textDue("'\\u{0}'", 3, "\0");
        Check.textDue("'\\u{7f}'", 3, "\u007f");
        Check.textDue("'\\u{80}'", 3, "\u00c2\u0080");
        Check.textDue("'\\u{7FF}'", 3, "\u00df\u00bf");
        Check.textDue("'\\u{800}'", 3, "\u00e0\u00a0\u0080");
        Check.textDue("'\\u{20ac}'", 3, "\u00e2\u0082\u00ac");
        Check.textDue("'\\u{D800}'", 3, "\u00ed\u00a0\u0080");
        Check.textDue("'\\u{ffff}'", 3, "\u00ef\u00bf\u00bf");
        Check.textDue("'\\u{10000}'", 3, "\u00f0\u0090\u0080\u0080");
        Check.textDue("'\\u{1fffff}'", 3, "\u00f7\u00bf\u00bf\u00bf");
        Check.textDue("'\\u{200000}'", 3, "\u00f8\u0088\u0080\u0080\u0080");
        Check.textDue("'\\u{3ffffff}'", 3, "\u00fb\u00bf\u00bf\u00bf\u00bf");
        Check.textDue("'\\u{4000000}'", 3, "\u00fc\u0084\u0080\u0080\u0080\u0080");
        Check.textDue("'\\u{7fffffff}'", 3, "\u00fd\u00bf\u00bf\u00bf\u00bf\u00bf");
        Check.textDue("'\\u{00000000000000000041}'", 3, "A");
        Check.textDue("'\\u{00000007FFFFFFF}'", 3, "\u00fd\u00bf\u00bf\u00bf\u00bf\u00bf");
    }

    private static void escapesThatAreNone() {
        Check.wrongDue("'\\q'", 3, 2, 0);
        Check.wrongDue("'\\A'", 3, 2, 0);
        Check.wrongDue("'\\ '", 3, 2, 0);
        Check.wrongDue("'\\\u00ff'", 3, 2, 0);
        Check.wrongDue("'\\x'", 3, 3, 0);
        Check.wrongDue("'\\xg0'", 3, 3, 0);
        Check.wrongDue("'\\x0'", 3, 4, 0);
        Check.wrongDue("'\\x0g'", 3, 4, 0);
        Check.wrongDue("'\\x\n", 3, 3, 0);
        Check.wrongDue("'\\x1\n", 3, 4, 0);
        Check.wrongDue("'\\256'", 3, 2, 0);
        Check.wrongDue("'ab\\999'", 3, 4, 0);
        Check.wrongDue("'\\300", 3, 2, 0);
        Check.wrongDue("'\\u'", 3, 3, 0);
        Check.wrongDue("'\\u41'", 3, 3, 0);
        Check.wrongDue("'\\u{}'", 3, 4, 0);
        Check.wrongDue("'\\u{g}'", 3, 4, 0);
        Check.wrongDue("'\\u{41'", 3, 6, 0);
        Check.wrongDue("'\\u{41 }'", 3, 6, 0);
        Check.wrongDue("'\\u{\n", 3, 4, 0);
        Check.wrongDue("'\\u{80000000}'", 3, 11, 0);
        Check.wrongDue("'\\u{ffffffff}'", 3, 11, 0);
        Check.wrongDue("'\\u{7fffffff0}'", 3, 12, 0);
        Check.wrongDue("'\\u{00080000000}'", 3, 14, 0);
        Check.wrongDue("'\\u{100000000000000000}'", 3, 12, 0);
        Check.wrongDue("'\\u{80000000", 3, 11, 0);
        Check.wrongDue("x = \"\\q\" ?", 3, 6, 2);
    }

    private static void quotes() {
        Check.textDue("''", 3, "");
        Check.textDue("\"\"", 3, "");
        Check.textDue("'\"'", 3, "\"");
        Check.textDue("\"'\"", 3, "'");
        Check.textDue("'[[--]]'", 3, "[[--]]");
        Check.textDue("'\0\u0080\u00ff\t\u000b\f'", 3, "\0\u0080\u00ff\t\u000b\f");
        Check.kindsDue("'a''b'", "3 3 ");
        Check.kindsDue("'a'b", "3 1 ");
        Check.kindsDue("'\\\\'a", "3 1 ");
    }

    private static void longBrackets() {
        Check.textDue("[[]]", 3, "");
        Check.textDue("[[a]]", 3, "a");
        Check.textDue("[=[a]=]", 3, "a");
        Check.textDue("[====[a]====]", 3, "a");
        Check.textDue("[=[]]]=]", 3, "]]");
        Check.textDue("[=[]==]=]", 3, "]==");
        Check.textDue("[=[]]=]", 3, "]");
        Check.textDue("[==[]=]]===]]==]", 3, "]=]]===]");
        Check.textDue("[[[[]]", 3, "[[");
        Check.textDue("[[]=]]", 3, "]=");
        Check.textDue("[[\n]]", 3, "");
        Check.textDue("[[\n\n]]", 3, "\n");
        Check.textDue("[[\r\n]]", 3, "");
        Check.textDue("[[\n\ra]]", 3, "a");
        Check.textDue("[[\r\ra]]", 3, "\na");
        Check.textDue("[[\r\n\r\na]]", 3, "\na");
        Check.textDue("[[ \n]]", 3, " \n");
        Check.textDue("[[a\rb\nc\r\nd\n\re\n\nf\r\rg]]", 3, "a\nb\nc\nd\ne\n\nf\n\ng");
        Check.textDue("[[\\n\\q'\"--\0\u00ff]]", 3, "\\n\\q'\"--\0\u00ff");
        Check.kindsDue("[[a]]]", "3 65 ");
        Check.kindsDue("[[a]]]]", "3 65 65 ");
        Check.kindsDue("a[[[b]]]", "1 3 65 ");
        Check.kindsDue("a[b[c]]", "1 64 1 64 1 65 65 ");
    }

    private static void comments() {
        Check.kindsDue("--", "");
        Check.kindsDue("-- a ! '", "");
        Check.kindsDue("a--b\nc", "1 1 ");
        Check.kindsDue("a--b\rc", "1 1 ");
        Check.kindsDue("a---b\n-c", "1 41 1 ");
        Check.kindsDue("--[[a\nb]]c", "1 ");
        Check.kindsDue("--[[]]c", "1 ");
        Check.kindsDue("--[==[a]]]=]\n]==]c", "1 ");
        Check.kindsDue("--[=a\nb", "1 ");
        Check.kindsDue("--[==", "");
        Check.kindsDue("--[", "");
        Check.kindsDue("--[a[\nb", "1 ");
        Check.kindsDue("-- [[a\nb", "1 ");
        Check.kindsDue("---[[a\nb]]", "1 65 65 ");
        Check.kindsDue("--=[[a\nb", "1 ");
        Check.kindsDue("--\n[[a]]", "3 ");
        Check.kindsDue("--[[a]]--[[b]]c--d", "1 ");
        Check.kindsDue("- --\n-", "41 41 ");
        Check.due("texts of comments", Check.cutOf("--[[a]] -- b").texts(), 0);
        Check.due("line behind a comment", Check.cutOf("--[[\n\r\n]]--\rx").line(0), 4);
        Check.wrongDue("a --[[b", 4, 7, 1);
        Check.wrongDue("a --[==[b]]\n]=]", 4, 15, 1);
        Check.wrongDue("--[[", 4, 4, 0);
        Check.wrongDue("--[[]", 4, 5, 0);
        Check.wrongDue("--[=[]=", 4, 7, 0);
    }

    private static void bytesWithoutAWord() {
        String first = "_abcdefghijklmnopqrstuvwxyzABCDEFGHIJKLMNOPQRSTUVWXYZ0123456789'\"+-*/%^#&~|<>=(){}[];:,.";
        String blanks = "\t\n\u000b\f\r ";
        for (char c = 0; c < 256; c++) {
            if (blanks.indexOf(c) >= 0) {
                Check.kindsDue(c + "x" + c, "1 ");
            } else if (first.indexOf(c) < 0) {
                Check.wrongDue("" + c, 1, 0, 0);
                Check.wrongDue("x\n" + c + "y", 1, 2, 1);
            }
        }
    }

    private static void brackets() {
        Check.wrongDue("[=", 5, 2, 0);
        Check.wrongDue("[===", 5, 4, 0);
        Check.wrongDue("[=a", 5, 2, 0);
        Check.wrongDue("[=]", 5, 2, 0);
        Check.wrongDue("[== [", 5, 3, 0);
        Check.wrongDue("a [==\n", 5, 5, 1);
        Check.wrongDue("a[=[b]=]c[==d", 5, 12, 3);
        Check.kindsDue("[ =", "64 59 ");
        Check.kindsDue("[", "64 ");
    }

    private static void textsWithoutEnd() {
        Check.wrongDue("'", 4, 1, 0);
        Check.wrongDue("'a", 4, 2, 0);
        Check.wrongDue("'a\"", 4, 3, 0);
        Check.wrongDue("'a\nb'", 4, 2, 0);
        Check.wrongDue("'a\rb'", 4, 2, 0);
        Check.wrongDue("x '\n'", 4, 3, 1);
        Check.wrongDue("'\\", 4, 2, 0);
        Check.wrongDue("'\\'", 4, 3, 0);
        Check.wrongDue("'\\x", 4, 3, 0);
        Check.wrongDue("'\\x4", 4, 4, 0);
        Check.wrongDue("'\\x41", 4, 5, 0);
        Check.wrongDue("'\\2", 4, 3, 0);
        Check.wrongDue("'\\25", 4, 4, 0);
        Check.wrongDue("'\\255", 4, 5, 0);
        Check.wrongDue("'\\u", 4, 3, 0);
        Check.wrongDue("'\\u{", 4, 4, 0);
        Check.wrongDue("'\\u{4", 4, 5, 0);
        Check.wrongDue("'\\u{41}", 4, 7, 0);
        Check.wrongDue("'\\z", 4, 3, 0);
        Check.wrongDue("'\\z \n ", 4, 6, 0);
        Check.wrongDue("'\\\n", 4, 3, 0);
        Check.wrongDue("'\\\r\n", 4, 4, 0);
        Check.wrongDue("'\\\n\n'", 4, 3, 0);
        Check.wrongDue("'\\\r\n\r'", 4, 4, 0);
        Check.wrongDue("[[", 4, 2, 0);
        Check.wrongDue("[[a]", 4, 4, 0);
        Check.wrongDue("[=[a]]", 4, 6, 0);
        Check.wrongDue("[=[a]==]", 4, 8, 0);
        Check.wrongDue("[[a\n\n", 4, 5, 0);
        Check.wrongDue("x [==[a]=]", 4, 10, 1);
    }

    /** Texts that a sum over bytes with factor 31 cannot tell apart, and such as differ at one end alone. */
    private static void textsThatAreAlike() {
        String[] all = {"Aa", "BB", "AaAa", "AaBB", "BBAa", "BBBB", "abc", "abd", "xbc", "ab", "abcd", "acb"};
        ChunkWords x = Check.cutOf(String.join(" ", all) + " " + String.join(" ", all));
        Check.due("texts() of texts that are alike", x.texts(), all.length);
        for (int k = 0; k < all.length; k++) {
            Check.due("text of " + all[k], x.text(k), k);
            Check.due("text of " + all[k] + " again", x.text(all.length + k), k);
            Check.due("bytes of " + all[k], Check.textOf(x, k), all[k]);
        }
        for (String other : new String[] {"CC", "AaCC", "bbc", "abe", "a", "abcde"}) {
            ChunkWords y = Check.cutOf(String.join(" ", all));
            Check.typeAll(y, other);
            Check.due("find() of " + other, y.find(), ChunkWords.BAD);
        }
        ChunkWords y = Check.cutOf("Aa");
        Check.typeAll(y, "BB");
        Check.due("find() of BB where Aa is", y.find(), ChunkWords.BAD);
    }

    /** As many different texts as 500 calls can type: the rows grow, and each text keeps its number. */
    private static void manyTexts() {
        StringBuilder tape = new StringBuilder();
        int names = 900;
        for (int k = 0; k < names; k++) {
            tape.append((char) ('a' + k / 30 % 26)).append((char) ('A' + k % 30 % 26)).append(k % 30 / 26).append(' ');
        }
        ChunkWords x = Check.typed(tape.toString());
        Check.due("cut of many names", x.cut(), names);
        for (int i = 0; i < names; i++) {
            Check.due("bytes of name " + i, Check.textOf(x, x.text(i)), tape.substring(4 * i, 4 * i + 3));
        }
        // the last 120 names are the first 120 again
        Check.due("how many are different", x.texts(), 780);
        Check.typeAll(x, tape.substring(4 * 555, 4 * 555 + 3));
        Check.due("find() of one of them", x.find(), 555);
        x.cut();
        Check.due("texts() of the next cut", x.texts(), 1);
    }
}
