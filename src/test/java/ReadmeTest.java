/** The examples of README.md: the same calls, with the answers that it tells. */
public final class ReadmeTest {
    public static void main(String[] args) {
        rightTape();
        wrongTape();
        Check.end();
    }

    private static void rightTape() {
        ChunkWords x = new ChunkWords();
        Check.due("type", x.type(0x78203d2035L, 5), 5);
        Check.due("cut", x.cut(), 3);
        int[][] words = {{1, 1, 0, 1, 0}, {59, 1, 2, 1, ChunkWords.BAD}, {2, 1, 4, 1, 1}};
        for (int i = 0; i < words.length; i++) {
            Check.due("kind(" + i + ")", x.kind(i), words[i][0]);
            Check.due("line(" + i + ")", x.line(i), words[i][1]);
            Check.due("begin(" + i + ")", x.begin(i), words[i][2]);
            Check.due("length(" + i + ")", x.length(i), words[i][3]);
            Check.due("text(" + i + ")", x.text(i), words[i][4]);
        }
        Check.due("texts", x.texts(), 2);
        Check.due("size(1)", x.size(1), 1);
        Check.due("at(1, 0)", x.at(1, 0), 53);
        Check.due("place", x.place(), 5);
        Check.due("type of x", x.type(0x78, 1), 1);
        Check.due("find of x", x.find(), 0);
    }

    private static void wrongTape() {
        ChunkWords x = new ChunkWords();
        Check.due("type", x.type(0x730a3d2761L, 5), 5);
        Check.due("cut", x.cut(), -4);
        Check.due("place", x.place(), 5);
        Check.due("wrongLine", x.wrongLine(), 2);
        Check.due("words", x.words(), 2);
    }
}
