import java.util.Random;

/**
 * Runs of 512 calls on a new object, in an order by chance (always the same
 * one), each call's answer against what the calls before it are due to leave.
 */
public final class RunsTest {
    private static final int RUNS = 400;
    private static final int CALLS = 512;
    private static final int[] NO_COUNTS = {0, 9, -1, 64, Integer.MIN_VALUE, Integer.MAX_VALUE};
    private static final int[] FAR = {-1, -2, 65536, Integer.MIN_VALUE, Integer.MAX_VALUE};

    private final Random chance;
    private final ChunkWords x = new ChunkWords();
    private SecondReading latest = new SecondReading("");
    private String tape = "";
    /** What is to be typed yet. */
    private String rest = "";

    private RunsTest(Random chance) {
        this.chance = chance;
    }

    public static void main(String[] args) {
        Random chance = new Random(20261116);
        for (int run = 0; run < RUNS; run++) {
            RunsTest one = new RunsTest(chance);
            for (int k = 0; k < CALLS; k++) {
                one.call();
            }
        }
        Check.end();
    }

    private void call() {
        switch (chance.nextInt(14)) {
            case 0: cut(); break;
            case 1: due("find()", x.find(), latest.texts.indexOf(tape)); break;
            case 2: due("place()", x.place(), latest.place); break;
            case 3: due("wrongLine()", x.wrongLine(), latest.lineOf(latest.place)); break;
            case 4: due("words()", x.words(), latest.words.size()); break;
            case 5: due("texts()", x.texts(), latest.texts.size()); break;
            case 6: askWord(); break;
            case 7: askWord(); break;
            case 8: askText(); break;
            case 9: typeNone(); break;
            default: type(); break;
        }
    }

    private void due(String call, long got, long want) {
        Check.due(call + " with the tape " + Check.shown(tape) + " behind a cut of " + Check.shown(latest.tape), got, want);
    }

    private void cut() {
        SecondReading next = new SecondReading(tape);
        due("cut()", x.cut(), next.answer());
        latest = next;
        tape = "";
        rest = "";
    }

    /** The bytes above the lowest n are there by chance, as they must not count. */
    private void type() {
        if (rest.isEmpty()) {
            rest = nextText();
        }
        int n = Math.min(1 + chance.nextInt(8), rest.length());
        long bytes = chance.nextLong();
        for (int k = 0; k < n; k++) {
            bytes = bytes << 8 | rest.charAt(k);
        }
        tape += rest.substring(0, n);
        rest = rest.substring(n);
        due("type(" + bytes + ", " + n + ")", x.type(bytes, n), tape.length());
    }

    /** Often a text that is kept, so that find() has something to find. */
    private String nextText() {
        String known = latest.texts.isEmpty() ? "" : latest.texts.get(chance.nextInt(latest.texts.size()));
        if (tape.isEmpty() && !known.isEmpty() && chance.nextInt(4) == 0) {
            return known;
        }
        return ChanceTapes.of(chance, chance.nextInt(4) > 0, 1 + chance.nextInt(8));
    }

    private void typeNone() {
        int n = NO_COUNTS[chance.nextInt(NO_COUNTS.length)];
        due("type(.., " + n + ")", x.type(chance.nextLong(), n), ChunkWords.BAD);
    }

    private void askWord() {
        int i = index(latest.words.size());
        boolean there = i >= 0 && i < latest.words.size();
        int[] word = there ? latest.words.get(i) : new int[] {-1, -1, -1, -1, -1};
        switch (chance.nextInt(5)) {
            case 0: due("kind(" + i + ")", x.kind(i), word[0]); break;
            case 1: due("line(" + i + ")", x.line(i), word[1]); break;
            case 2: due("begin(" + i + ")", x.begin(i), word[2]); break;
            case 3: due("length(" + i + ")", x.length(i), word[3]); break;
            default: due("text(" + i + ")", x.text(i), word[4]); break;
        }
    }

    private void askText() {
        int number = index(latest.texts.size());
        boolean there = number >= 0 && number < latest.texts.size();
        int size = there ? latest.texts.get(number).length() : -1;
        if (chance.nextBoolean()) {
            due("size(" + number + ")", x.size(number), size);
            return;
        }
        int k = index(Math.max(size, 0));
        int want = k >= 0 && k < size ? latest.texts.get(number).charAt(k) : -1;
        due("at(" + number + ", " + k + ")", x.at(number, k), want);
    }

    /** Mostly one of those that there are, else one just behind them or far away. */
    private int index(int count) {
        int how = chance.nextInt(8);
        if (how == 0) {
            return FAR[chance.nextInt(FAR.length)];
        }
        return how == 1 || count == 0 ? count : chance.nextInt(count);
    }
}
