import java.lang.reflect.Constructor;
import java.lang.reflect.Method;
import java.lang.reflect.Modifier;
import java.math.BigInteger;
import java.util.Set;
import java.util.TreeSet;
import java.util.function.IntSupplier;

/** A test for each promise: ordinary inputs, the edges that the document names, and wrong inputs. */
public final class PromisesTest {
    private static final String STATE = "throws.IllegalStateException";
    private static final String ARGUMENT = "throws.IllegalArgumentException";
    private static final String INDEX = "throws.IndexOutOfBoundsException";
    private static final String UNSUPPORTED = "throws.UnsupportedOperationException";
    private static final BigInteger GREATEST = BigInteger.ONE.shiftLeft(1599).subtract(BigInteger.ONE);
    private static final BigInteger LEAST = BigInteger.ONE.shiftLeft(1599).negate();

    private static int wrong = 0;

    private PromisesTest() {
    }

    public static void main(String[] args) {
        face();
        promise1NewObject();
        promise2Digits();
        promise3Number();
        promise4Bytes();
        promise5Contents();
        promise6Sum();
        promise7Grow();
        promise8Size();
        promise9ByteAt();
        promise10Compare();
        promise11Small();
        promise12Print();
        promise13Groups();
        promise14Out();
        promise15Back();
        promise16Clear();
        promise17Count();
        System.out.println(wrong == 0 ? "all answers are as due" : wrong + " answers are not as due");
        if (wrong != 0) {
            System.exit(1);
        }
    }

    private static String answer(IntSupplier call) {
        try {
            return Integer.toString(call.getAsInt());
        } catch (RuntimeException e) {
            return "throws." + e.getClass().getSimpleName();
        }
    }

    private static void due(String what, IntSupplier call, String want) {
        same(what, answer(call), want);
    }

    private static void due(String what, IntSupplier call, int want) {
        due(what, call, Integer.toString(want));
    }

    private static void same(String what, String got, String want) {
        if (!got.equals(want)) {
            wrong++;
            System.out.println(what + " answered " + got + ", due is " + want);
        }
    }

    private static void tell(NumberContents x, String digits) {
        for (int i = 0; i < digits.length(); i += 9) {
            String part = digits.substring(i, Math.min(i + 9, digits.length()));
            x.digits(Integer.parseInt(part), part.length());
        }
    }

    /** Told by bytes, as digits do not reach the numbers of the most bytes. */
    private static int keep(NumberContents x, BigInteger value) {
        for (byte b : value.toByteArray()) {
            x.bytes(b, 1);
        }
        return x.contents();
    }

    private static int keep(NumberContents x, long value) {
        return keep(x, BigInteger.valueOf(value));
    }

    private static NumberContents full() {
        NumberContents x = new NumberContents();
        for (int i = 0; i < 40; i++) {
            keep(x, i);
        }
        return x;
    }

    private static BigInteger kept(NumberContents x, int a) {
        byte[] bytes = new byte[x.size(a)];
        for (int i = 0; i < bytes.length; i++) {
            bytes[i] = (byte) x.byteAt(a, i);
        }
        return new BigInteger(bytes);
    }

    private static void isKept(String what, NumberContents x, int a, BigInteger want) {
        same(what, kept(x, a).toString(), want.toString());
        same(what + " in bytes", Integer.toString(x.size(a)), Integer.toString(want.toByteArray().length));
    }

    private static String written(NumberContents x) {
        StringBuilder text = new StringBuilder();
        for (int i = 0; i < x.count(3); i++) {
            text.append((char) x.out(i));
        }
        return text.toString();
    }

    /** Leaves other bytes in whatever rows the object reckons in, so that no call can lean on what is left there. */
    private static void reckonOtherwise(NumberContents x) {
        x.print(keep(x, LEAST));
        keep(x, new BigInteger("-5a5a5a5a5a5a5a5a5a5a5a5a", 16));
    }

    private static void counts(String what, NumberContents x, int numbers, int digits, int bytes, int out) {
        due(what + ": numbers", () -> x.count(0), numbers);
        due(what + ": digits", () -> x.count(1), digits);
        due(what + ": bytes", () -> x.count(2), bytes);
        due(what + ": written", () -> x.count(3), out);
    }

    private static void face() {
        Set<String> names = new TreeSet<>();
        for (Method m : NumberContents.class.getDeclaredMethods()) {
            if (!Modifier.isPrivate(m.getModifiers())) {
                names.add(m.getName());
            }
        }
        same("the face", names.toString(), "[back, byteAt, bytes, clear, compare, contents, count, digits, groups, grow, "
                + "number, out, print, size, small, sum]");
        for (Constructor<?> c : NumberContents.class.getDeclaredConstructors()) {
            same("the constructor's parameters", Integer.toString(c.getParameterCount()), "0");
        }
        due("NONE", () -> NumberContents.NONE, -1);
    }

    private static void promise1NewObject() {
        NumberContents x = new NumberContents();
        counts("1 new", x, 0, 0, 0, 0);
        due("1 size(0)", () -> x.size(0), INDEX);
        due("1 out(0)", () -> x.out(0), INDEX);
        new NumberContents().digits(1, 1);
        counts("1 another object is not touched", x, 0, 0, 0, 0);
    }

    private static void promise2Digits() {
        NumberContents x = new NumberContents();
        due("2 digits(7, 1)", () -> x.digits(7, 1), 1);
        due("2 noughts ahead", () -> x.digits(42, 4), 5);
        due("2 nine digits", () -> x.digits(987654321, 9), 14);
        due("2 n 0", () -> x.digits(0, 0), ARGUMENT);
        due("2 n 10", () -> x.digits(0, 10), ARGUMENT);
        due("2 n least", () -> x.digits(0, Integer.MIN_VALUE), ARGUMENT);
        due("2 n greatest", () -> x.digits(0, Integer.MAX_VALUE), ARGUMENT);
        due("2 v -1", () -> x.digits(-1, 9), ARGUMENT);
        due("2 v least", () -> x.digits(Integer.MIN_VALUE, 9), ARGUMENT);
        due("2 v greatest", () -> x.digits(Integer.MAX_VALUE, 9), ARGUMENT);
        for (int n = 1, unit = 10; n <= 9; n++, unit *= 10) {
            int count = n;
            int more = unit;
            due("2 one digit more than " + n, () -> x.digits(more, count), ARGUMENT);
            due("2 all of " + n, () -> new NumberContents().digits(more - 1, count), n);
        }
        due("2 wrong ones leave the row alone", () -> x.count(1), 14);
        x.number(false);
        isKept("2 the digits", x, 0, new BigInteger("70042987654321"));
        tell(x, "1".repeat(479));
        due("2 481 digits", () -> x.digits(22, 2), STATE);
        due("2 the argument comes first", () -> x.digits(22, 1), ARGUMENT);
        due("2 still 479", () -> x.count(1), 479);
        due("2 480 digits", () -> x.digits(3, 1), 480);
        due("2 one more", () -> x.digits(3, 1), STATE);
        x.number(false);
        isKept("2 480 digits", x, 1, new BigInteger("1".repeat(479) + "3"));
    }

    private static void promise3Number() {
        NumberContents x = new NumberContents();
        due("3 none wait", () -> x.number(false), STATE);
        x.digits(0, 9);
        due("3 0 with minus", () -> x.number(true), 0);
        isKept("3 0 with minus", x, 0, BigInteger.ZERO);
        due("3 no digits wait then", () -> x.count(1), 0);
        due("3 none wait any more", () -> x.number(true), STATE);
        String[] told = {"1", "127", "128", "129", "255", "256", "32767", "32768", "32769", "65536", "000000000000128",
            "999999999", "1000000000", "123456789012345678", "1234567890123456789", "9".repeat(480),
            "0".repeat(470) + "1234567890", "5" + "0".repeat(479)};
        for (int i = 0; i < told.length; i++) {
            BigInteger value = new BigInteger(told[i]);
            tell(x, told[i]);
            due("3 " + told[i], () -> x.number(false), 1 + 2 * i);
            isKept("3 " + told[i], x, 1 + 2 * i, value);
            tell(x, told[i]);
            due("3 -" + told[i], () -> x.number(true), 2 + 2 * i);
            isKept("3 -" + told[i], x, 2 + 2 * i, value.negate());
        }
        NumberContents y = full();
        due("3 no state first", () -> y.number(false), STATE);
        y.digits(5, 1);
        y.bytes(1, 2);
        due("3 forty", () -> y.number(false), UNSUPPORTED);
        counts("3 its digits are gone", y, 40, 0, 2, 0);
    }

    private static void promise4Bytes() {
        NumberContents x = new NumberContents();
        due("4 one byte", () -> x.bytes(0x12345678, 1), 1);
        due("4 two", () -> x.bytes(0x12345678, 2), 3);
        due("4 three", () -> x.bytes(0x12345678, 3), 6);
        due("4 four", () -> x.bytes(0x92345678, 4), 10);
        due("4 n 0", () -> x.bytes(1, 0), ARGUMENT);
        due("4 n 5", () -> x.bytes(1, 5), ARGUMENT);
        due("4 n least", () -> x.bytes(1, Integer.MIN_VALUE), ARGUMENT);
        due("4 n greatest", () -> x.bytes(1, Integer.MAX_VALUE), ARGUMENT);
        due("4 still ten", () -> x.count(2), 10);
        x.contents();
        isKept("4 the bytes", x, 0, new BigInteger("78567834567892345678", 16));
        for (int i = 0; i < 49; i++) {
            x.bytes(0x40302010, 4);
        }
        x.bytes(0x405060, 3);
        due("4 201 bytes", () -> x.bytes(0, 2), STATE);
        due("4 the argument comes first", () -> x.bytes(0, 5), ARGUMENT);
        due("4 still 199", () -> x.count(2), 199);
        due("4 200 bytes", () -> x.bytes(-1, 1), 200);
        due("4 one more", () -> x.bytes(0, 1), STATE);
        x.contents();
        isKept("4 200 bytes", x, 1, new BigInteger("40302010".repeat(49) + "405060ff", 16));
    }

    private static void contentsOf(String what, int v, int n, String want) {
        NumberContents x = new NumberContents();
        x.bytes(v, n);
        x.digits(1, 1);
        due("5 " + what, x::contents, want);
        counts("5 " + what, x, want.equals("0") ? 1 : 0, 1, 0, 0);
        if (want.equals("0")) {
            isKept("5 " + what, x, 0, BigInteger.valueOf(v));
        }
    }

    private static void promise5Contents() {
        contentsOf("0", 0, 1, "0");
        contentsOf("-1", -1, 1, "0");
        contentsOf("127", 127, 1, "0");
        contentsOf("-128", -128, 1, "0");
        contentsOf("128", 128, 2, "0");
        contentsOf("-129", -129, 2, "0");
        contentsOf("256", 256, 2, "0");
        contentsOf("least int", Integer.MIN_VALUE, 4, "0");
        contentsOf("0 in two", 0, 2, ARGUMENT);
        contentsOf("127 in two", 127, 2, ARGUMENT);
        contentsOf("-1 in two", -1, 2, ARGUMENT);
        contentsOf("-128 in two", -128, 2, ARGUMENT);
        contentsOf("128 in three", 128, 3, ARGUMENT);
        contentsOf("-129 in four", -129, 4, ARGUMENT);
        due("5 none wait", () -> new NumberContents().contents(), STATE);
        NumberContents x = new NumberContents();
        x.bytes(0, 4);
        due("5 not as few as can be", x::contents, ARGUMENT);
        due("5 then none wait", x::contents, STATE);
        keep(x, GREATEST);
        keep(x, LEAST);
        isKept("5 the greatest", x, 0, GREATEST);
        isKept("5 the least", x, 1, LEAST);
        NumberContents y = full();
        due("5 state first", y::contents, STATE);
        y.bytes(0, 2);
        due("5 argument second", y::contents, ARGUMENT);
        y.bytes(7, 1);
        y.digits(1, 3);
        due("5 forty", y::contents, UNSUPPORTED);
        counts("5 its bytes are gone", y, 40, 3, 0, 0);
    }

    private static void promise6Sum() {
        BigInteger[] values = {BigInteger.ZERO, BigInteger.ONE, BigInteger.valueOf(-1), BigInteger.valueOf(127),
            BigInteger.valueOf(-128), BigInteger.valueOf(255), BigInteger.valueOf(-256), BigInteger.valueOf(65535),
            new BigInteger("123456789012345678901234567890"), new BigInteger("-99999999999999999999"), GREATEST, LEAST};
        for (BigInteger a : values) {
            for (BigInteger b : values) {
                sumOf(a, b, false, a.add(b));
                sumOf(a, b, true, a.subtract(b));
            }
        }
        NumberContents x = full();
        due("6 forty", () -> x.sum(1, 2, false), UNSUPPORTED);
        due("6 index first", () -> x.sum(1, 40, false), INDEX);
        due("6 index first", () -> x.sum(-1, 1, true), INDEX);
        due("6 nothing there", () -> new NumberContents().sum(0, 0, false), INDEX);
    }

    private static void sumOf(BigInteger a, BigInteger b, boolean minus, BigInteger want) {
        NumberContents x = new NumberContents();
        keep(x, a);
        keep(x, b);
        x.digits(1, 2);
        x.bytes(1, 3);
        String what = "6 " + a + (minus ? " - " : " + ") + b;
        boolean fits = want.bitLength() < 1600;
        due(what, () -> x.sum(0, 1, minus), fits ? "2" : UNSUPPORTED);
        counts(what + ", what it does not take waits on", x, fits ? 3 : 2, 2, 3, 0);
        if (fits) {
            isKept(what, x, 2, want);
        }
        isKept(what + ", the first", x, 0, a);
        isKept(what + ", the second", x, 1, b);
    }

    private static void promise7Grow() {
        int[] factors = {0, 1, -1, 2, -2, 10, 256, 1000000007, -1000000007, Integer.MAX_VALUE, Integer.MIN_VALUE};
        BigInteger[] values = {BigInteger.ZERO, BigInteger.ONE, BigInteger.valueOf(-1), BigInteger.valueOf(-128),
            new BigInteger("123456789012345678901234567890"), GREATEST, LEAST, GREATEST.shiftRight(31), LEAST.shiftRight(31)};
        for (BigInteger a : values) {
            for (int v : factors) {
                for (int w : factors) {
                    growOf(a, v, w);
                }
            }
        }
        NumberContents x = full();
        due("7 forty", () -> x.grow(1, 2, 3), UNSUPPORTED);
        due("7 index first", () -> x.grow(40, 2, 3), INDEX);
        due("7 index first", () -> x.grow(-1, 2, 3), INDEX);
    }

    private static void growOf(BigInteger a, int v, int w) {
        NumberContents x = new NumberContents();
        keep(x, a);
        reckonOtherwise(x);
        x.digits(1, 2);
        x.bytes(1, 3);
        BigInteger want = a.multiply(BigInteger.valueOf(v)).add(BigInteger.valueOf(w));
        String what = "7 " + a + " * " + v + " + " + w;
        boolean fits = want.bitLength() < 1600;
        due(what, () -> x.grow(0, v, w), fits ? "3" : UNSUPPORTED);
        counts(what + ", what it does not take waits on", x, fits ? 4 : 3, 2, 3, LEAST.toString().length());
        if (fits) {
            isKept(what, x, 3, want);
        }
        isKept(what + ", the number itself", x, 0, a);
    }

    private static void promise8Size() {
        NumberContents x = new NumberContents();
        int[] values = {0, 127, 128, -128, -129, 32767, 32768, Integer.MAX_VALUE, Integer.MIN_VALUE};
        int[] sizes = {1, 1, 2, 1, 2, 2, 3, 4, 4};
        for (int i = 0; i < values.length; i++) {
            int a = keep(x, values[i]);
            due("8 size of " + values[i], () -> x.size(a), sizes[i]);
        }
        int most = keep(x, LEAST);
        due("8 the least", () -> x.size(most), 200);
        due("8 none", () -> x.size(most + 1), INDEX);
        due("8 -1", () -> x.size(-1), INDEX);
        due("8 least int", () -> x.size(Integer.MIN_VALUE), INDEX);
        due("8 greatest int", () -> x.size(Integer.MAX_VALUE), INDEX);
    }

    private static void promise9ByteAt() {
        NumberContents x = new NumberContents();
        keep(x, -2);
        keep(x, 0x12_80_ff);
        due("9 of -2", () -> x.byteAt(0, 0), 254);
        due("9 the highest", () -> x.byteAt(1, 0), 0x12);
        due("9 the middle", () -> x.byteAt(1, 1), 0x80);
        due("9 the lowest", () -> x.byteAt(1, 2), 0xff);
        due("9 behind", () -> x.byteAt(1, 3), INDEX);
        due("9 ahead", () -> x.byteAt(1, -1), INDEX);
        due("9 least int", () -> x.byteAt(1, Integer.MIN_VALUE), INDEX);
        due("9 greatest int", () -> x.byteAt(1, Integer.MAX_VALUE), INDEX);
        due("9 no number", () -> x.byteAt(2, 0), INDEX);
        due("9 no number -1", () -> x.byteAt(-1, 0), INDEX);
    }

    private static void promise10Compare() {
        NumberContents x = new NumberContents();
        BigInteger[] order = {LEAST, LEAST.add(BigInteger.ONE), BigInteger.valueOf(-65537), BigInteger.valueOf(-257),
            BigInteger.valueOf(-256), BigInteger.valueOf(-129), BigInteger.valueOf(-128), BigInteger.valueOf(-1), BigInteger.ZERO,
            BigInteger.ONE, BigInteger.valueOf(127), BigInteger.valueOf(128), BigInteger.valueOf(255), BigInteger.valueOf(256),
            BigInteger.valueOf(32768), GREATEST.subtract(BigInteger.ONE), GREATEST};
        for (BigInteger value : order) {
            keep(x, value);
        }
        int again = keep(x, GREATEST);
        for (int a = 0; a < order.length; a++) {
            for (int b = 0; b < order.length; b++) {
                int first = a;
                int second = b;
                due("10 " + order[a] + " and " + order[b], () -> x.compare(first, second), Integer.compare(a, b));
            }
        }
        due("10 one number at two places", () -> x.compare(again, again - 1), 0);
        due("10 none", () -> x.compare(0, again + 1), INDEX);
        due("10 none", () -> x.compare(again + 1, 0), INDEX);
        due("10 -1", () -> x.compare(-1, -1), INDEX);
    }

    private static void promise11Small() {
        NumberContents x = new NumberContents();
        int[] values = {0, 1, -1, 127, 128, -128, -129, 255, 65535, -65536, 8388608, Integer.MAX_VALUE, Integer.MIN_VALUE};
        for (int value : values) {
            int a = keep(x, value);
            due("11 " + value, () -> x.small(a), value);
        }
        int above = keep(x, 1L + Integer.MAX_VALUE);
        int below = keep(x, -1L + Integer.MIN_VALUE);
        int far = keep(x, LEAST);
        due("11 above", () -> x.small(above), ARGUMENT);
        due("11 below", () -> x.small(below), ARGUMENT);
        due("11 far below", () -> x.small(far), ARGUMENT);
        due("11 none", () -> x.small(far + 1), INDEX);
        due("11 -1", () -> x.small(-1), INDEX);
    }

    private static void promise12Print() {
        NumberContents x = new NumberContents();
        BigInteger[] values = {BigInteger.ZERO, BigInteger.ONE, BigInteger.valueOf(-1), BigInteger.TEN, BigInteger.valueOf(-10),
            BigInteger.valueOf(999999999), BigInteger.valueOf(1000000000), BigInteger.valueOf(-1000000000),
            BigInteger.valueOf(1000000000000000000L), BigInteger.valueOf(100000000000000001L), BigInteger.TEN.pow(480),
            BigInteger.TEN.pow(481).negate(), BigInteger.valueOf(-128), BigInteger.valueOf(Long.MIN_VALUE), GREATEST, LEAST};
        for (BigInteger value : values) {
            int a = keep(x, value);
            due("12 length of " + value, () -> x.print(a), value.toString().length());
            same("12 print", written(x), value.toString());
            isKept("12 the number stays", x, a, value);
        }
        due("12 none", () -> x.print(values.length), INDEX);
        due("12 -1", () -> x.print(-1), INDEX);
        same("12 what was written stays", written(x), LEAST.toString());
    }

    private static String inGroups(BigInteger value) {
        StringBuilder text = new StringBuilder();
        text.append((char) (value.intValue() & 127));
        for (BigInteger left = value.shiftRight(7); left.signum() > 0; left = left.shiftRight(7)) {
            text.append((char) (left.intValue() & 127 | 128));
        }
        return text.reverse().toString();
    }

    private static final BigInteger[] FROM_NOUGHT_ON = {BigInteger.ZERO, BigInteger.ONE, BigInteger.valueOf(127),
        BigInteger.valueOf(128), BigInteger.valueOf(129), BigInteger.valueOf(16383), BigInteger.valueOf(16384),
        BigInteger.valueOf(2097151), BigInteger.valueOf(2097152), BigInteger.valueOf(268435455), BigInteger.valueOf(268435456),
        new BigInteger("123456789012345678901234567890"), BigInteger.ONE.shiftLeft(1596),
        BigInteger.ONE.shiftLeft(1596).subtract(BigInteger.ONE), GREATEST};

    private static void promise13Groups() {
        NumberContents x = new NumberContents();
        for (BigInteger value : FROM_NOUGHT_ON) {
            int a = keep(x, value);
            String want = inGroups(value);
            due("13 groups of " + value, () -> x.groups(a), want.length());
            same("13 groups of " + value, written(x), want);
            isKept("13 the number stays", x, a, value);
        }
        int minus = keep(x, -1);
        int least = keep(x, LEAST);
        x.groups(3);
        due("13 -1", () -> x.groups(minus), ARGUMENT);
        due("13 the least", () -> x.groups(least), ARGUMENT);
        due("13 none", () -> x.groups(least + 1), INDEX);
        due("13 place -1", () -> x.groups(-1), INDEX);
        same("13 what was written stays", written(x), inGroups(BigInteger.valueOf(128)));
    }

    private static void promise14Out() {
        NumberContents x = new NumberContents();
        due("14 nothing written", () -> x.out(0), INDEX);
        keep(x, -47);
        keep(x, 300);
        x.print(0);
        due("14 the sign", () -> x.out(0), 45);
        due("14 a digit", () -> x.out(1), 52);
        due("14 the last", () -> x.out(2), 55);
        due("14 behind", () -> x.out(3), INDEX);
        due("14 ahead", () -> x.out(-1), INDEX);
        due("14 least int", () -> x.out(Integer.MIN_VALUE), INDEX);
        due("14 greatest int", () -> x.out(Integer.MAX_VALUE), INDEX);
        x.groups(1);
        due("14 a group", () -> x.out(0), 130);
        due("14 the last group", () -> x.out(1), 44);
        due("14 nothing of what was written before", () -> x.out(2), INDEX);
    }

    private static void promise15Back() {
        NumberContents x = new NumberContents();
        due("15 nothing written", x::back, ARGUMENT);
        for (int i = 0; i < FROM_NOUGHT_ON.length; i++) {
            BigInteger value = FROM_NOUGHT_ON[i];
            x.groups(keep(x, value));
            due("15 back of " + value, x::back, 2 * i + 1);
            isKept("15 back of " + value, x, 2 * i + 1, value);
            same("15 what was written stays", written(x), inGroups(value));
        }
        int seven = keep(x, 7);
        x.print(seven);
        due("15 one digit is a group", x::back, seven + 1);
        isKept("15 one digit is a group", x, seven + 1, BigInteger.valueOf('7'));
        x.print(keep(x, 10));
        due("15 two digits", x::back, ARGUMENT);
        x.print(keep(x, -1));
        due("15 a digit with sign", x::back, ARGUMENT);
        x.print(keep(x, LEAST));
        due("15 many digits", x::back, ARGUMENT);
        NumberContents y = full();
        due("15 argument first", y::back, ARGUMENT);
        y.groups(9);
        y.digits(1, 2);
        y.bytes(1, 3);
        due("15 forty", y::back, UNSUPPORTED);
        counts("15 forty", y, 40, 2, 3, 1);
        y.clear();
        y.digits(0, 6);
        y.number(false);
        y.grow(0, 1, -1);
        due("15 what was written outlives the numbers", y::back, 2);
        isKept("15 what was written outlives the numbers", y, 2, BigInteger.valueOf(9));
    }

    private static void promise16Clear() {
        NumberContents x = new NumberContents();
        due("16 none", x::clear, 0);
        NumberContents y = full();
        y.digits(12, 3);
        y.bytes(12, 2);
        y.print(39);
        due("16 forty", y::clear, 40);
        counts("16 what waits stays", y, 0, 3, 2, 2);
        due("16 gone", () -> y.size(0), INDEX);
        due("16 again", y::clear, 0);
        due("16 places begin anew", () -> y.number(true), 0);
        isKept("16 the digits that waited", y, 0, BigInteger.valueOf(-12));
    }

    private static void promise17Count() {
        NumberContents x = new NumberContents();
        keep(x, 5);
        keep(x, 12345);
        x.digits(1, 7);
        x.bytes(1, 3);
        x.print(1);
        counts("17", x, 2, 7, 3, 5);
        due("17 -1", () -> x.count(-1), NumberContents.NONE);
        due("17 4", () -> x.count(4), NumberContents.NONE);
        due("17 least int", () -> x.count(Integer.MIN_VALUE), NumberContents.NONE);
        due("17 greatest int", () -> x.count(Integer.MAX_VALUE), NumberContents.NONE);
    }
}
