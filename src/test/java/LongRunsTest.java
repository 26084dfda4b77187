import java.math.BigInteger;
import java.util.ArrayList;
import java.util.List;

/** Runs of 512 calls, each answer held against a plain model of the document over BigInteger. */
public final class LongRunsTest {
    private static final int RUNS = 1500;
    private static final int CALLS = 512;

    /** The document's words with the library's numbers. */
    private static final class Model {
        private final List<BigInteger> kept = new ArrayList<>();
        private String digits = "";
        private List<Integer> bytes = new ArrayList<>();
        private List<Integer> written = new ArrayList<>();

        private BigInteger at(int a) {
            if (a < 0 || a >= kept.size()) {
                throw new IndexOutOfBoundsException();
            }
            return kept.get(a);
        }

        private int keep(BigInteger value) {
            if (kept.size() == 40 || value.toByteArray().length > 200) {
                throw new UnsupportedOperationException();
            }
            kept.add(value);
            return kept.size() - 1;
        }

        int digits(int v, int n) {
            if (n < 1 || n > 9 || v < 0 || Integer.toString(v).length() > n) {
                throw new IllegalArgumentException();
            }
            if (digits.length() + n > 480) {
                throw new IllegalStateException();
            }
            digits += String.format("%0" + n + "d", v);
            return digits.length();
        }

        int number(boolean minus) {
            if (digits.isEmpty()) {
                throw new IllegalStateException();
            }
            BigInteger value = new BigInteger(digits);
            digits = "";
            return keep(minus ? value.negate() : value);
        }

        int bytes(int v, int n) {
            if (n < 1 || n > 4) {
                throw new IllegalArgumentException();
            }
            if (bytes.size() + n > 200) {
                throw new IllegalStateException();
            }
            for (int i = n - 1; i >= 0; i--) {
                bytes.add(v >>> 8 * i & 255);
            }
            return bytes.size();
        }

        int contents() {
            if (bytes.isEmpty()) {
                throw new IllegalStateException();
            }
            byte[] all = new byte[bytes.size()];
            for (int i = 0; i < all.length; i++) {
                all[i] = (byte) (int) bytes.get(i);
            }
            bytes = new ArrayList<>();
            BigInteger value = new BigInteger(all);
            if (value.toByteArray().length != all.length) {
                throw new IllegalArgumentException();
            }
            return keep(value);
        }

        int sum(int a, int b, boolean minus) {
            BigInteger first = at(a);
            BigInteger second = at(b);
            return keep(minus ? first.subtract(second) : first.add(second));
        }

        int grow(int a, int v, int w) {
            return keep(at(a).multiply(BigInteger.valueOf(v)).add(BigInteger.valueOf(w)));
        }

        int byteAt(int a, int i) {
            byte[] all = at(a).toByteArray();
            if (i < 0 || i >= all.length) {
                throw new IndexOutOfBoundsException();
            }
            return all[i] & 255;
        }

        int compare(int a, int b) {
            BigInteger first = at(a);
            return first.compareTo(at(b));
        }

        int small(int a) {
            if (at(a).bitLength() > 31) {
                throw new IllegalArgumentException();
            }
            return at(a).intValue();
        }

        int print(int a) {
            String text = at(a).toString();
            written = new ArrayList<>();
            for (int i = 0; i < text.length(); i++) {
                written.add((int) text.charAt(i));
            }
            return written.size();
        }

        int groups(int a) {
            BigInteger left = at(a);
            if (left.signum() < 0) {
                throw new IllegalArgumentException();
            }
            written = new ArrayList<>();
            do {
                written.add(0, (left.intValue() & 127) + (written.isEmpty() ? 0 : 128));
                left = left.shiftRight(7);
            } while (left.signum() > 0);
            return written.size();
        }

        int out(int i) {
            if (i < 0 || i >= written.size()) {
                throw new IndexOutOfBoundsException();
            }
            return written.get(i);
        }

        int back() {
            if (written.isEmpty() || written.get(0) == 128) {
                throw new IllegalArgumentException();
            }
            BigInteger value = BigInteger.ZERO;
            for (int i = 0; i < written.size(); i++) {
                if (written.get(i) < 128 != (i == written.size() - 1)) {
                    throw new IllegalArgumentException();
                }
                value = value.shiftLeft(7).add(BigInteger.valueOf(written.get(i) & 127));
            }
            return keep(value);
        }

        int clear() {
            int before = kept.size();
            kept.clear();
            return before;
        }

        int count(int what) {
            int[] counts = {kept.size(), digits.length(), bytes.size(), written.size()};
            return what >= 0 && what < 4 ? counts[what] : -1;
        }
    }

    /** What is called, with its arguments; which of them count is the call's affair. */
    private record Call(int kind, int a, int b, int c, boolean minus) {
        int on(NumberContents x) {
            switch (kind) {
                case 0: return x.digits(b, c);
                case 1: return x.number(minus);
                case 2: return x.bytes(b, c);
                case 3: return x.contents();
                case 4: return x.sum(a, c, minus);
                case 5: return x.grow(a, b, c);
                case 6: return x.size(a);
                case 7: return x.byteAt(a, c);
                case 8: return x.compare(a, c);
                case 9: return x.small(a);
                case 10: return x.print(a);
                case 11: return x.groups(a);
                case 12: return x.out(c);
                case 13: return x.back();
                case 14: return x.clear();
                default: return x.count(c);
            }
        }

        int on(Model x) {
            switch (kind) {
                case 0: return x.digits(b, c);
                case 1: return x.number(minus);
                case 2: return x.bytes(b, c);
                case 3: return x.contents();
                case 4: return x.sum(a, c, minus);
                case 5: return x.grow(a, b, c);
                case 6: return x.at(a).toByteArray().length;
                case 7: return x.byteAt(a, c);
                case 8: return x.compare(a, c);
                case 9: return x.small(a);
                case 10: return x.print(a);
                case 11: return x.groups(a);
                case 12: return x.out(c);
                case 13: return x.back();
                case 14: return x.clear();
                default: return x.count(c);
            }
        }
    }

    /** Written out, so that every machine draws the same calls. */
    private static final class Dice {
        private long state;

        Dice(long seed) {
            state = seed * 2862933555777941757L + 3037000493L;
        }

        int below(int n) {
            state = state * 6364136223846793005L + 1442695040888963407L;
            return (int) ((state >>> 33) % n);
        }

        int any() {
            int[] edges = {0, 1, -1, 127, 128, 255, 256, -128, -129, 999999999, 1000000000, Integer.MAX_VALUE, Integer.MIN_VALUE};
            int whole = below(1 << 16) << 16 | below(1 << 16);
            return below(3) == 0 ? edges[below(edges.length)] : whole >> below(32);
        }
    }

    private static int wrong = 0;

    private LongRunsTest() {
    }

    public static void main(String[] args) {
        for (int run = 0; run < RUNS && wrong == 0; run++) {
            run(run);
        }
        System.out.println(wrong == 0 ? "all answers are as due" : wrong + " answers are not as due");
        if (wrong != 0) {
            System.exit(1);
        }
    }

    private static void run(int seed) {
        Dice dice = new Dice(seed);
        NumberContents x = new NumberContents();
        Model model = new Model();
        for (int i = 0; i < CALLS; i++) {
            Call call = draw(dice, model, seed % 4);
            String got = answer(call, x);
            String want = answer(call, model);
            if (!got.equals(want)) {
                wrong++;
                System.out.println("run " + seed + ", call " + i + ": " + call + " answered " + got + ", due is " + want);
                return;
            }
        }
        sameState(seed, x, model);
    }

    private static Call draw(Dice dice, Model model, int mood) {
        int kind = dice.below(16);
        if (mood == 1 && dice.below(4) != 0) {
            kind = 0;
        } else if (mood == 2 && dice.below(4) != 0) {
            kind = 2;
        } else if (mood == 3 && dice.below(2) != 0) {
            kind = 4 + dice.below(2);
        }
        if (kind == 14 && dice.below(4) != 0) {
            kind = 15;
        }
        int places = model.kept.size();
        int a = dice.below(12) == 0 ? dice.any() : dice.below(4) == 0 ? places - 1 : dice.below(places + 1);
        return new Call(kind, a, first(dice, kind), second(dice, kind, model), dice.below(2) == 0);
    }

    private static int first(Dice dice, int kind) {
        return kind == 0 && dice.below(8) != 0 ? dice.below(1000000000) : dice.any();
    }

    private static int second(Dice dice, int kind, Model model) {
        if (dice.below(12) == 0) {
            return dice.any();
        }
        switch (kind) {
            case 0: return dice.below(4) == 0 ? dice.below(11) : 9;
            case 2: return dice.below(6);
            case 4:
            case 8: return dice.below(model.kept.size() + 1);
            case 5: return dice.any();
            case 7: return dice.below(8);
            case 12: return dice.below(model.written.size() + 2);
            default: return dice.below(6) - 1;
        }
    }

    private static String answer(Call call, NumberContents x) {
        try {
            return Integer.toString(call.on(x));
        } catch (RuntimeException e) {
            return e.getClass().getSimpleName();
        }
    }

    private static String answer(Call call, Model x) {
        try {
            return Integer.toString(call.on(x));
        } catch (RuntimeException e) {
            return e.getClass().getSimpleName();
        }
    }

    private static void sameState(int seed, NumberContents x, Model model) {
        StringBuilder got = new StringBuilder();
        StringBuilder want = new StringBuilder();
        for (int what = 0; what < 4; what++) {
            got.append(x.count(what)).append(' ');
            want.append(model.count(what)).append(' ');
        }
        for (int i = 0; i < model.written.size(); i++) {
            got.append(x.out(i)).append(' ');
            want.append(model.out(i)).append(' ');
        }
        for (int a = 0; a < model.kept.size(); a++) {
            byte[] bytes = new byte[x.size(a)];
            for (int i = 0; i < bytes.length; i++) {
                bytes[i] = (byte) x.byteAt(a, i);
            }
            got.append(new BigInteger(bytes)).append(' ');
            want.append(model.at(a)).append(' ');
        }
        if (!got.toString().equals(want.toString())) {
            wrong++;
            System.out.println("run " + seed + " ends with " + got + ", due is " + want);
        }
    }
}
