/** Runs of 512 drawn calls (the same ones each time), each answer held against the model of the document. */
public final class LongRunsTest extends Calls {
    private static final int RUNS = 1500;

    /** So many calls at a run's end only look, so that what the others left is seen within the 512. */
    private static final int LOOKS = 120;

    private static final int DIGITS = 0;
    private static final int BYTES = 2;
    private static final int SUM = 4;
    private static final int CLEAR = 14;
    private static final int COUNT = 15;
    private static final int[] LOOKING = {6, 7, 7, 7, 7, 8, 9, 12, 12, 12, 12, COUNT};

    /** Written out, so that every machine draws the same calls. */
    private static final class Dice {
        private long state;

        Dice(long seed) {
            state = seed * 2862933555777941757L + 3037000493L;
        }

        int below(int n) {
            state = state * 6364136223846793005L + 1442695040888963407L;
            return (int) ((state >>> 33) % n);
        }

        int any() {
            int[] edges = {0, 1, -1, 127, 128, 255, 256, -128, -129, 999999999, 1000000000, GREATEST_INT, LEAST_INT};
            int whole = below(1 << 16) << 16 | below(1 << 16);
            return below(3) == 0 ? edges[below(edges.length)] : whole >> below(32);
        }
    }

    private LongRunsTest() {
    }

    public static void main(String[] args) {
        for (int run = 0; run < RUNS && Report.isClean(); run++) {
            run(run);
        }
        Report.end();
    }

    private static void run(int seed) {
        Dice dice = new Dice(seed);
        NumberContents x = new NumberContents();
        Model model = new Model();
        for (int i = 0; i < Scene.MOST_CALLS && Report.isClean(); i++) {
            boolean looks = i >= Scene.MOST_CALLS - LOOKS;
            Call call = draw(dice, model, looks ? LOOKING[dice.below(LOOKING.length)] : kind(dice, seed % 4));
            Report.same("run " + seed + ", call " + (i + 1) + ", " + call, call.answerOf(x), call.answerOf(model));
        }
    }

    /** Some runs mostly tell digits, or bytes, or reckon, so that they come to the limits. */
    private static int kind(Dice dice, int mood) {
        int kind = dice.below(16);
        if (mood == 1 && dice.below(4) != 0) {
            kind = DIGITS;
        } else if (mood == 2 && dice.below(4) != 0) {
            kind = BYTES;
        } else if (mood == 3 && dice.below(2) != 0) {
            kind = SUM + dice.below(2);
        }
        return kind == CLEAR && dice.below(4) != 0 ? COUNT : kind;
    }

    private static Call draw(Dice dice, Model model, int kind) {
        int a = place(dice, model);
        switch (kind) {
            case DIGITS: return digits(dice.below(8) == 0 ? dice.any() : dice.below(1000000000), among(dice, 11, 9));
            case 1: return number(dice.below(2) == 0);
            case BYTES: return bytes(dice.any(), among(dice, 6, 4));
            case 3: return contents();
            case SUM: return sum(a, place(dice, model), dice.below(2) == 0);
            case 5: return grow(a, dice.any(), dice.any());
            case 6: return size(a);
            case 7: return byteAt(a, byteOf(dice, model, a));
            case 8: return compare(a, place(dice, model));
            case 9: return small(a);
            case 10: return print(a);
            case 11: return groups(a);
            case 12: return out(dice.below(12) == 0 ? dice.any() : dice.below(model.count(3) + 2));
            case 13: return back();
            case CLEAR: return clear();
            default: return count(dice.below(6) - 1);
        }
    }

    private static int place(Dice dice, Model model) {
        int places = model.count(0);
        if (dice.below(12) == 0) {
            return dice.any();
        }
        return dice.below(4) == 0 ? places - 1 : dice.below(places + 1);
    }

    private static int byteOf(Dice dice, Model model, int a) {
        boolean isKept = a >= 0 && a < model.count(0);
        return dice.below(12) == 0 ? dice.any() : dice.below(isKept ? model.size(a) + 1 : 8);
    }

    private static int among(Dice dice, int limit, int mostly) {
        if (dice.below(24) == 0) {
            return dice.any();
        }
        return dice.below(4) == 0 ? dice.below(limit) : mostly;
    }
}
