import java.util.Arrays;
import java.util.Random;

/**
 * Tapes put together from pieces by chance (always the same ones), each cut by
 * ChunkWords and by a second reading of the document.
 */
public final class ModelTest {
    private static final int TAPES = 60000;

    public static void main(String[] args) {
        Random chance = new Random(20261115);
        int[] seen = new int[7];
        ChunkWords used = new ChunkWords();
        for (int k = 0; k < TAPES; k++) {
            int count = 1 + chance.nextInt(k % 10 == 0 ? 60 : 9);
            SecondReading model = new SecondReading(ChanceTapes.of(chance, k % 3 == 0, count));
            seen[model.why]++;
            // some objects are new and some have cut before, as both must answer alike
            if (k % 4 == 0) {
                used = new ChunkWords();
            }
            compare(model, used);
        }
        for (int why = 0; why <= 5; why++) {
            Check.due("enough tapes that end with " + why, seen[why] > 500 ? 1 : 0, 1);
        }
        Check.end();
    }

    private static void compare(SecondReading model, ChunkWords x) {
        String told = Check.shown(model.tape);
        Check.typeAll(x, model.tape);
        Check.due("cut of " + told, x.cut(), model.answer());
        Check.due("place of " + told, x.place(), model.place);
        Check.due("wrongLine of " + told, x.wrongLine(), model.lineOf(model.place));
        Check.due("words of " + told, x.words(), model.words.size());
        for (int i = 0; i < model.words.size(); i++) {
            int[] word = model.words.get(i);
            int[] got = {x.kind(i), x.line(i), x.begin(i), x.length(i), x.text(i)};
            Check.due("word " + i + " of " + told, Arrays.toString(got), Arrays.toString(word));
        }
        Check.due("texts of " + told, x.texts(), model.texts.size());
        for (int t = 0; t < model.texts.size(); t++) {
            Check.due("text " + t + " of " + told, Check.textOf(x, t), model.texts.get(t));
        }
        if (!model.texts.isEmpty()) {
            String last = model.texts.get(model.texts.size() - 1);
            Check.typeAll(x, last);
            Check.due("find in " + told, x.find(), model.texts.size() - 1);
            x.type('?', 1);
            Check.due("find of more in " + told, x.find(), model.texts.indexOf(last + "?"));
            // only so that the next tape begins empty
            x.cut();
        }
    }
}
