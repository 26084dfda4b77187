import java.lang.reflect.Member;
import java.lang.reflect.Modifier;
import java.math.BigInteger;
import java.util.ArrayList;
import java.util.List;
import java.util.Set;
import java.util.TreeSet;

/** Each promise with ordinary inputs; its boundary cases are in BoundariesTest, those of the terms in TermsTest. */
public final class PromisesTest extends Calls {
    private static final BigInteger LONG = new BigInteger("123456789012345678901234567890");
    private static final BigInteger LONG_MINUS = new BigInteger("-99999999999999999999999");

    /** The document's lines, as Java itself writes them of the class: with the exceptions, in their order. */
    private static final String[] FACE = {
        "public final class NumberContents",
        "public static final int NONE",
        "public NumberContents()",
        "public int digits(int,int) throws IllegalArgumentException,IllegalStateException",
        "public int number(boolean) throws IllegalStateException,UnsupportedOperationException",
        "public int bytes(int,int) throws IllegalArgumentException,IllegalStateException",
        "public int contents() throws IllegalStateException,IllegalArgumentException,UnsupportedOperationException",
        "public int sum(int,int,boolean) throws IndexOutOfBoundsException,UnsupportedOperationException",
        "public int grow(int,int,int) throws IndexOutOfBoundsException,UnsupportedOperationException",
        "public int size(int) throws IndexOutOfBoundsException",
        "public int byteAt(int,int) throws IndexOutOfBoundsException",
        "public int compare(int,int) throws IndexOutOfBoundsException",
        "public int small(int) throws IndexOutOfBoundsException,IllegalArgumentException",
        "public int print(int) throws IndexOutOfBoundsException",
        "public int groups(int) throws IndexOutOfBoundsException,IllegalArgumentException",
        "public int out(int) throws IndexOutOfBoundsException",
        "public int back() throws IllegalArgumentException,UnsupportedOperationException",
        "public int clear()",
        "public int count(int)",
    };

    private PromisesTest() {
    }

    public static void main(String[] args) {
        face();
        promise1NewObject();
        promise2Digits();
        promise3Number();
        promise4Bytes();
        promise5Contents();
        promise6Sum();
        promise7Grow();
        promise8Size();
        promise9ByteAt();
        promise10Compare();
        promise11Small();
        promise12Print();
        promise13Groups();
        promise14Out();
        promise15Back();
        promise16Clear();
        promise17Count();
        Report.end();
    }

    private static void face() {
        Class<NumberContents> face = NumberContents.class;
        List<Member> members = new ArrayList<>();
        members.addAll(List.of(face.getDeclaredFields()));
        members.addAll(List.of(face.getDeclaredConstructors()));
        members.addAll(List.of(face.getDeclaredMethods()));
        Set<String> lines = new TreeSet<>();
        lines.add(face.toGenericString());
        for (Member member : members) {
            if (!Modifier.isPrivate(member.getModifiers())) {
                lines.add(member.toString().replace("java.lang.", "").replace("NumberContents.", ""));
            }
        }
        Set<String> due = new TreeSet<>(List.of(FACE));
        Report.same("the face", String.join("\n", lines), String.join("\n", due));
        Report.same("NONE", Integer.toString(NumberContents.NONE), "-1");
        for (Class<?> inside : face.getDeclaredClasses()) {
            Report.same("a class inside, " + inside.getSimpleName() + ", is static and not public",
                    Boolean.toString(Modifier.isStatic(inside.getModifiers()) && !Modifier.isPublic(inside.getModifiers())
                            && !Modifier.isProtected(inside.getModifiers())), "true");
        }
    }

    private static void promise1NewObject() {
        NumberContents x = new NumberContents();
        NumberContents y = new NumberContents();
        for (Call call : new Call[] {digits(1, 1), number(false), digits(2, 1), bytes(3, 1), print(0)}) {
            call.answerOf(y);
        }
        for (int what = 0; what < 4; what++) {
            Report.same("1 untouched by another object, " + count(what), count(what).answerOf(x), "0");
            Report.same("1 the other object, " + count(what), count(what).answerOf(y), "1");
        }
        new Scene("1 a new object").ends();
    }

    private static void promise2Digits() {
        new Scene("2").due(digits(7, 1), 1).due(digits(42, 4), 5).due(digits(987654321, 9), 14).due(number(false), 0)
                .due(digits(70042987, 8), 8).due(digits(654321, 6), 14).due(number(false), 1).due(compare(0, 1), 0)
                .due(print(0), 14).due(out(0), '7').due(out(1), '0').due(out(3), '4').due(out(5), '9').ends();
    }

    private static void promise3Number() {
        String[] told = {"5", "300", "70000", "123456789", "1234567890", "123456789012345678", "1234567890123456789",
            "340282366920938463463374607431768211456", "3".repeat(200), "0".repeat(9) + "8".repeat(300)};
        for (String digits : told) {
            new Scene("3 " + digits).tell(digits).due(number(false), 0).tell(digits).due(number(true), 1)
                    .keep(new BigInteger(digits)).keep(new BigInteger(digits).negate()).due(compare(0, 2), 0)
                    .due(compare(1, 3), 0).ends();
        }
    }

    private static void promise4Bytes() {
        new Scene("4").due(bytes(0x12345678, 1), 1).due(bytes(0x12345678, 2), 3).due(bytes(0x12345678, 3), 6)
                .due(bytes(0x92345678, 4), 10).tell("568279059577755636356728").then(number(false)).due(contents(), 1).due(compare(0, 1), 0).ends();
    }

    private static void promise5Contents() {
        new Scene("5").then(bytes(0x0102, 2)).due(contents(), 0).due(small(0), 258).then(bytes(-200, 2)).due(contents(), 1)
                .due(small(1), -200).then(bytes(1, 1)).then(bytes(0, 4)).due(contents(), 2).due(print(2), 10)
                .due(out(0), '4').due(out(9), '6').ends();
    }

    private static void promise6Sum() {
        BigInteger[] values = {BigInteger.ZERO, BigInteger.TEN, BigInteger.valueOf(-77777), LONG, LONG_MINUS, LONG.pow(5)};
        for (BigInteger a : values) {
            for (BigInteger b : values) {
                new Scene("6 " + a + " and " + b).keep(a).keep(b).due(sum(0, 1, false), 2).due(sum(0, 1, true), 3)
                        .keep(a.add(b)).keep(a.subtract(b)).due(compare(2, 4), 0).due(compare(3, 5), 0).ends();
            }
        }
    }

    private static void promise7Grow() {
        BigInteger[] values = {BigInteger.ZERO, BigInteger.TEN, BigInteger.valueOf(-77777), LONG, LONG_MINUS, LONG.pow(5)};
        int[] factors = {1, -3, 10, 1000, -1000000007};
        for (BigInteger a : values) {
            for (int v : factors) {
                new Scene("7 " + a + " * " + v).keep(a).due(grow(0, v, 12345), 1).due(grow(0, v, -98765), 2)
                        .keep(a.multiply(BigInteger.valueOf(v)).add(BigInteger.valueOf(12345)))
                        .keep(a.multiply(BigInteger.valueOf(v)).subtract(BigInteger.valueOf(98765)))
                        .due(compare(1, 3), 0).due(compare(2, 4), 0).ends();
            }
        }
    }

    private static void promise8Size() {
        new Scene("8").keep(100).keep(1000).keep(-100000).keep(LONG).due(size(0), 1).due(size(1), 2).due(size(2), 3)
                .due(size(3), 13).ends();
    }

    private static void promise9ByteAt() {
        new Scene("9").keep(0x12345678).keep(-300).due(byteAt(0, 0), 0x12).due(byteAt(0, 1), 0x34).due(byteAt(0, 2), 0x56)
                .due(byteAt(0, 3), 0x78).due(byteAt(1, 0), 254).due(byteAt(1, 1), 212).ends();
    }

    private static void promise10Compare() {
        BigInteger[] order = {LONG.negate(), LONG_MINUS, BigInteger.valueOf(-500), BigInteger.valueOf(-3), BigInteger.TWO,
            BigInteger.valueOf(500), BigInteger.valueOf(70000), LONG};
        Scene scene = new Scene("10");
        for (BigInteger value : order) {
            scene.keep(value);
        }
        for (int a = 0; a < order.length; a++) {
            for (int b = 0; b < order.length; b++) {
                scene.due(compare(a, b), Integer.compare(a, b));
            }
        }
        scene.ends();
    }

    private static void promise11Small() {
        new Scene("11").keep(42).keep(-42).keep(1000000).keep(-123456789).keep(LONG).due(small(0), 42).due(small(1), -42)
                .due(small(2), 1000000).due(small(3), -123456789).due(small(4), ARGUMENT).ends();
    }

    private static void prints(BigInteger value) {
        String text = value.toString();
        Scene scene = new Scene("12 " + value).keep(value).due(print(0), text.length());
        for (int i = 0; i < text.length(); i++) {
            scene.due(out(i), text.charAt(i));
        }
        scene.due(out(text.length()), INDEX).ends();
    }

    private static void promise12Print() {
        prints(BigInteger.valueOf(7));
        prints(BigInteger.valueOf(-1234));
        prints(BigInteger.valueOf(1000000000000000000L));
        prints(BigInteger.valueOf(-100000000000000001L));
        prints(LONG);
        prints(LONG_MINUS);
        prints(LONG.pow(12).negate());
    }

    private static void promise13Groups() {
        new Scene("13").keep(5).keep(300).keep(1000000).due(groups(0), 1).due(out(0), 5).due(groups(1), 2).due(out(0), 130)
                .due(out(1), 44).due(groups(2), 3).due(out(0), 128 + 61).due(out(1), 128 + 4).due(out(2), 64).ends();
    }

    private static void promise14Out() {
        new Scene("14").keep(-90817).due(print(0), 6).due(out(0), '-').due(out(1), '9').due(out(2), '0').due(out(3), '8')
                .due(out(4), '1').due(out(5), '7').ends();
    }

    private static void promise15Back() {
        for (BigInteger value : new BigInteger[] {BigInteger.TEN, BigInteger.valueOf(1000), LONG, LONG.pow(7)}) {
            new Scene("15 " + value).keep(value).then(groups(0)).due(back(), 1).due(compare(0, 1), 0).due(clear(), 2)
                    .due(back(), 0).ends();
        }
    }

    private static void promise16Clear() {
        new Scene("16").keep(1).keep(2).keep(3).then(digits(45, 2)).then(bytes(6, 1)).due(clear(), 3).due(count(0), 0)
                .due(number(false), 0).due(small(0), 45).due(contents(), 1).due(small(1), 6).ends();
    }

    private static void promise17Count() {
        new Scene("17").keep(1).keep(2222).then(digits(45, 3)).then(bytes(6, 1)).then(print(1)).due(count(0), 2)
                .due(count(1), 3).due(count(2), 1).due(count(3), 4).due(count(4), NumberContents.NONE).ends();
    }
}
