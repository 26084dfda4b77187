import java.math.BigInteger;

/** The boundary cases that each promise names, a test for each sentence; those of the terms are in TermsTest. */
public final class BoundariesTest extends Calls {
    private static final BigInteger ONE = BigInteger.ONE;
    private static final BigInteger GREATEST = ONE.shiftLeft(1599).subtract(ONE);
    private static final BigInteger LEAST = ONE.shiftLeft(1599).negate();
    private static final int NOUGHT = '0';
    private static final int NINE = '9';
    private static final int MINUS = '-';

    private BoundariesTest() {
    }

    public static void main(String[] args) {
        promise1NothingInANewObject();
        promise2HowManyDigits();
        promise2MoreDigitsThanWanted();
        promise2BelowNought();
        promise2NoughtsAhead();
        promise2RefusedLeavesTheRow();
        promise3NoDigitsWait();
        promise3NoughtWithMinus();
        promise3FewestAndMostDigits();
        promise4HowManyBytes();
        promise4LowestOnesHighestFirst();
        promise4RefusedLeavesTheRow();
        promise5NoneWait();
        promise5NotAsFewAsCanBe();
        promise5NotAsFewAsCanBeOf200();
        promise5NoBytesWaitThen();
        promise6SignsAndCarries();
        promise6NumbersOfOnePlace();
        promise7FactorsAndAddends();
        promise8FewestAndMostBytes();
        promise9FirstAndLastByte();
        promise10OneAndTheNext();
        promise10TheyAreOne();
        promise11GreatestAndLeastInt();
        promise12NoNoughtsAhead();
        promise12SignOfNumbersBelowNought();
        promise12MostDigits();
        promise12RefusedWritesNothing();
        promise13BelowNought();
        promise13RefusedWritesNothing();
        promise14FirstAndLastByte();
        promise14WhatWasWrittenLast();
        promise15NothingWritten();
        promise15PrintedIsReadAsGroups();
        promise15NotGroupsOfOneNumber();
        promise15MostGroups();
        promise16NoneAndForty();
        promise16WhatWaitsStays();
        promise17AnotherWhat();
        promise17NoneAndMost();
        Report.end();
    }

    private static void promise1NothingInANewObject() {
        new Scene("1 no numbers").due(count(0), 0).due(size(0), INDEX).due(clear(), 0).ends();
        new Scene("1 no digits wait").due(count(1), 0).due(number(false), STATE).due(count(0), 0).ends();
        new Scene("1 no bytes wait").due(count(2), 0).due(contents(), STATE).due(count(0), 0).ends();
        new Scene("1 nothing written").due(count(3), 0).due(out(0), INDEX).due(back(), ARGUMENT).due(count(0), 0).ends();
        new Scene("1 first place").due(digits(1, 1), 1).due(number(false), 0).ends();
    }

    private static void promise2HowManyDigits() {
        new Scene("2 one digit and none").due(digits(5, 1), 1).due(digits(0, 0), ARGUMENT).due(digits(5, 0), ARGUMENT).ends();
        new Scene("2 nine digits and ten").due(digits(5, 9), 9).due(digits(0, 10), ARGUMENT)
                .due(digits(GREATEST_INT, 10), ARGUMENT).ends();
        new Scene("2 far from 1 .. 9").due(digits(0, -1), ARGUMENT).due(digits(0, LEAST_INT), ARGUMENT)
                .due(digits(0, GREATEST_INT), ARGUMENT).due(count(1), 0).ends();
        Scene scene = new Scene("2 each of 1 .. 9");
        int wait = 0;
        for (int n = 1; n <= 9; n++) {
            wait += n;
            scene.due(digits(n, n), wait);
        }
        scene.due(number(false), 0).due(print(0), 45).due(out(0), '1').due(out(1), NOUGHT).due(out(2), '2').due(out(44), '9').ends();
    }

    private static void promise2MoreDigitsThanWanted() {
        int beyond = 1;
        for (int n = 1; n <= 9; n++) {
            beyond *= 10;
            new Scene("2 v of " + n + " digits and one more").due(digits(beyond - 1, n), n).due(digits(beyond, n), ARGUMENT)
                    .due(count(1), n).due(number(false), 0).due(small(0), beyond - 1).ends();
        }
        new Scene("2 v of ten digits").due(digits(GREATEST_INT, 9), ARGUMENT).due(digits(GREATEST_INT, 1), ARGUMENT)
                .due(count(1), 0).ends();
    }

    private static void promise2BelowNought() {
        for (int n = 1; n <= 9; n++) {
            new Scene("2 v 0 and -1 of " + n).due(digits(0, n), n).due(digits(-1, n), ARGUMENT)
                    .due(digits(LEAST_INT, n), ARGUMENT).due(count(1), n).ends();
        }
    }

    private static void promise2NoughtsAhead() {
        new Scene("2 noughts ahead").due(digits(1, 1), 1).due(digits(2, 9), 10).due(digits(0, 2), 12).due(digits(30, 3), 15)
                .due(number(false), 0).due(print(0), 15).due(out(0), '1').due(out(1), NOUGHT).due(out(8), NOUGHT).due(out(9), '2')
                .due(out(10), NOUGHT).due(out(12), NOUGHT).due(out(13), '3').due(out(14), NOUGHT).ends();
    }

    private static void promise2RefusedLeavesTheRow() {
        new Scene("2 refused, the row stays").due(digits(12, 2), 2).due(digits(100, 2), ARGUMENT).due(digits(-5, 2), ARGUMENT)
                .due(digits(5, 0), ARGUMENT).due(digits(5, 10), ARGUMENT).due(count(1), 2).due(digits(3, 1), 3)
                .due(number(false), 0).due(small(0), 123).ends();
        new Scene("2 too many, the row stays").tell("1".repeat(475)).due(digits(2, 6), STATE).due(count(1), 475)
                .due(digits(2, 5), 480).due(digits(2, 1), STATE).due(count(1), 480).due(number(false), 0).due(print(0), 480)
                .due(out(474), '1').due(out(475), NOUGHT).due(out(479), '2').ends();
    }

    private static void promise3NoDigitsWait() {
        new Scene("3 none wait").due(number(false), STATE).due(number(true), STATE).due(count(0), 0).ends();
        new Scene("3 none wait any more").then(digits(4, 1)).due(number(false), 0).due(count(1), 0).due(number(false), STATE)
                .due(number(true), STATE).due(count(0), 1).ends();
        new Scene("3 bytes that wait are no digits").then(bytes(4, 1)).due(number(false), STATE).due(count(2), 1).ends();
        new Scene("3 refused digits do not wait").then(digits(10, 1)).due(number(false), STATE).ends();
        new Scene("3 the next digits come alone").then(digits(45, 2)).due(number(false), 0).due(digits(6, 1), 1)
                .due(number(true), 1).due(small(0), 45).due(small(1), -6).ends();
    }

    private static void promise3NoughtWithMinus() {
        new Scene("3 0 is 0").then(digits(0, 1)).due(number(true), 0).then(digits(0, 1)).due(number(false), 1)
                .due(small(0), 0).due(size(0), 1).due(byteAt(0, 0), 0).due(compare(0, 1), 0).due(groups(0), 1).due(print(0), 1)
                .due(out(0), NOUGHT).ends();
        new Scene("3 1 with minus").then(digits(1, 1)).due(number(true), 0).due(small(0), -1).due(size(0), 1)
                .due(byteAt(0, 0), 255).due(print(0), 2).ends();
    }

    private static void promise3FewestAndMostDigits() {
        for (int digit = 0; digit <= 9; digit++) {
            new Scene("3 one digit").then(digits(digit, 1)).due(number(false), 0).due(small(0), digit)
                    .then(digits(digit, 1)).due(number(true), 1).due(small(1), -digit).ends();
        }
        new Scene("3 480 digits").tell("9".repeat(480)).due(number(false), 0).tell("9".repeat(480)).due(number(true), 1)
                .due(size(0), 200).due(size(1), 200).due(print(0), 480).due(out(0), NINE).due(out(479), NINE)
                .due(sum(0, 1, false), 2).due(small(2), 0).ends();
        for (int n = 1; n <= 480; n++) {
            new Scene("3 " + n + " digits").tell("1" + "0".repeat(n - 1)).due(number(true), 0).due(print(0), n + 1)
                    .due(out(0), MINUS).due(out(1), '1').due(out(n), n == 1 ? '1' : NOUGHT).due(out(n + 1), INDEX).played();
        }
    }

    private static void promise4HowManyBytes() {
        new Scene("4 one byte and none").due(bytes(5, 1), 1).due(bytes(5, 0), ARGUMENT).due(count(2), 1).ends();
        new Scene("4 four bytes and five").due(bytes(0x05060708, 4), 4).due(bytes(5, 5), ARGUMENT).due(count(2), 4).ends();
        new Scene("4 far from 1 .. 4").due(bytes(5, -1), ARGUMENT).due(bytes(5, LEAST_INT), ARGUMENT)
                .due(bytes(5, GREATEST_INT), ARGUMENT).due(count(2), 0).due(contents(), STATE).ends();
        new Scene("4 any v").due(bytes(LEAST_INT, 4), 4).due(bytes(GREATEST_INT, 4), 8).due(bytes(-1, 4), 12).due(bytes(0, 4), 16)
                .due(contents(), 0).due(byteAt(0, 0), 128).due(byteAt(0, 3), 0).due(byteAt(0, 4), 127).due(byteAt(0, 11), 255)
                .due(byteAt(0, 12), 0).ends();
    }

    private static void promise4LowestOnesHighestFirst() {
        Scene scene = new Scene("4 the lowest ones, the highest first").due(bytes(0x71727374, 1), 1).due(bytes(0x75767778, 2), 3);
        scene.due(bytes(0xf1f2f3f4, 3), 6).due(bytes(0xf5f6f7f8, 4), 10).due(contents(), 0);
        int[] due = {0x74, 0x77, 0x78, 0xf2, 0xf3, 0xf4, 0xf5, 0xf6, 0xf7, 0xf8};
        for (int i = 0; i < due.length; i++) {
            scene.due(byteAt(0, i), due[i]);
        }
        scene.due(byteAt(0, due.length), INDEX).ends();
        new Scene("4 no sign above the lowest").due(bytes(-2, 1), 1).due(contents(), 0).due(size(0), 1).due(byteAt(0, 0), 254)
                .due(bytes(0x1ff, 1), 1).due(contents(), 1).due(small(1), -1).ends();
    }

    private static void promise4RefusedLeavesTheRow() {
        new Scene("4 refused, the row stays").due(bytes(0x1234, 2), 2).due(bytes(7, 0), ARGUMENT).due(bytes(7, 5), ARGUMENT)
                .due(count(2), 2).due(bytes(0x56, 1), 3).due(contents(), 0).due(small(0), 0x123456).ends();
        new Scene("4 too many, the row stays").tellBytes(GREATEST.shiftRight(16).toByteArray()).due(bytes(0x010203, 3), STATE)
                .due(bytes(0x01020304, 4), STATE).due(count(2), 198).due(bytes(0x0102, 2), 200).due(bytes(3, 1), STATE)
                .due(contents(), 0).due(size(0), 200).due(byteAt(0, 197), 255).due(byteAt(0, 198), 1).due(byteAt(0, 199), 2).ends();
    }

    private static void promise5NoneWait() {
        new Scene("5 none wait").due(contents(), STATE).due(count(0), 0).ends();
        new Scene("5 none wait any more").then(bytes(4, 1)).due(contents(), 0).due(count(2), 0).due(contents(), STATE)
                .due(count(0), 1).ends();
        new Scene("5 digits that wait are no bytes").then(digits(4, 1)).due(contents(), STATE).due(count(1), 1).ends();
        new Scene("5 refused bytes do not wait").then(bytes(4, 5)).due(contents(), STATE).ends();
    }

    private static void fewest(int v, int n) {
        new Scene("5 as few as can be, " + n + " of " + v).then(bytes(v, n)).due(contents(), 0).due(size(0), n)
                .due(small(0), v).ends();
    }

    private static void notFewest(int v, int n) {
        new Scene("5 not as few as can be, " + n + " of " + v).keep(3).then(digits(8, 2)).then(print(0)).then(bytes(v, n))
                .due(contents(), ARGUMENT).due(count(2), 0).due(contents(), STATE).due(count(0), 1).due(count(1), 2).ends();
    }

    private static void promise5NotAsFewAsCanBe() {
        for (int v = -128; v <= 127; v++) {
            fewest(v, 1);
            notFewest(v, 2);
            notFewest(v, 3);
            notFewest(v, 4);
        }
        for (int v : new int[] {128, 129, 255, 256, 32767, -129, -130, -255, -256, -257, -32768}) {
            fewest(v, 2);
            notFewest(v, 3);
            notFewest(v, 4);
        }
        for (int v : new int[] {32768, 65535, 65536, 8388607, -32769, -65536, -65537, -8388608}) {
            fewest(v, 3);
            notFewest(v, 4);
        }
        for (int v : new int[] {8388608, 16777216, GREATEST_INT, -8388609, -16777217, LEAST_INT}) {
            fewest(v, 4);
        }
    }

    private static void promise5NotAsFewAsCanBeOf200() {
        BigInteger greatest = GREATEST.shiftRight(8);
        BigInteger least = LEAST.shiftRight(8);
        new Scene("5 200 with a nought ahead").then(bytes(0, 1)).tellBytes(greatest.toByteArray()).due(count(2), 200)
                .due(contents(), ARGUMENT).due(count(2), 0).due(count(0), 0).ends();
        new Scene("5 200 with 255 ahead").then(bytes(255, 1)).tellBytes(least.toByteArray()).due(count(2), 200)
                .due(contents(), ARGUMENT).due(count(2), 0).due(count(0), 0).ends();
        new Scene("5 200 with a nought that is wanted").then(bytes(0, 1)).tellBytes(least.toByteArray()).due(contents(), 0)
                .due(size(0), 200).due(byteAt(0, 0), 0).due(byteAt(0, 1), 128).ends();
        new Scene("5 200 with 255 that is wanted").then(bytes(255, 1)).tellBytes(greatest.toByteArray()).due(contents(), 0)
                .due(size(0), 200).due(byteAt(0, 0), 255).due(byteAt(0, 1), 127).ends();
        new Scene("5 200 noughts").tellBytes(new byte[200]).due(contents(), ARGUMENT).due(contents(), STATE).ends();
        new Scene("5 199 bytes").tellBytes(greatest.toByteArray()).due(contents(), 0).due(size(0), 199).ends();
    }

    private static void promise5NoBytesWaitThen() {
        new Scene("5 the next bytes come alone").then(bytes(0x1234, 2)).due(contents(), 0).due(bytes(9, 1), 1).due(contents(), 1)
                .due(small(0), 0x1234).due(small(1), 9).ends();
        new Scene("5 the next come alone when refused, too").then(bytes(0, 4)).due(contents(), ARGUMENT).due(bytes(9, 1), 1)
                .due(contents(), 0).due(small(0), 9).ends();
    }

    private static void sumOf(long a, long b) {
        new Scene("6 sums of " + a + " and " + b).keep(a).keep(b).due(sum(0, 1, false), 2).due(sum(0, 1, true), 3)
                .due(sum(1, 0, true), 4).due(small(2), (int) (a + b)).due(small(3), (int) (a - b)).due(small(4), (int) (b - a)).ends();
    }

    private static void promise6SignsAndCarries() {
        long[] values = {0, 1, -1, 127, 128, 255, 256, -127, -128, -129, -255, -256, -257, 32767, 32768, -32768, -32769, 65535, -65536};
        for (long a : values) {
            for (long b : values) {
                sumOf(a, b);
            }
        }
        new Scene("6 a carry through all bytes").keep(GREATEST).keep(-1).keep(LEAST).due(sum(0, 2, false), 3).due(small(3), -1)
                .due(sum(1, 0, true), 4).due(compare(4, 2), 0).due(sum(1, 2, true), 5).due(compare(5, 0), 0)
                .due(sum(0, 0, true), 6).due(small(6), 0).due(sum(2, 2, true), 7).due(small(7), 0).ends();
    }

    private static void promise6NumbersOfOnePlace() {
        new Scene("6 a number and itself").keep(-300).due(sum(0, 0, false), 1).due(sum(0, 0, true), 2).due(small(0), -300)
                .due(small(1), -600).due(small(2), 0).due(size(2), 1).ends();
    }

    private static void growOf(long a, int v, int w) {
        new Scene("7 " + a + " * " + v + " + " + w).keep(a).due(grow(0, v, w), 1)
                .keep(BigInteger.valueOf(a).multiply(BigInteger.valueOf(v)).add(BigInteger.valueOf(w)))
                .due(compare(1, 2), 0).due(size(0), BigInteger.valueOf(a).toByteArray().length).ends();
    }

    private static void promise7FactorsAndAddends() {
        int[] edges = {0, 1, -1, 255, 256, -256, GREATEST_INT, LEAST_INT};
        for (long a : new long[] {0, 1, -1, 128, -128, GREATEST_INT, LEAST_INT, Long.MAX_VALUE, Long.MIN_VALUE}) {
            for (int v : edges) {
                for (int w : edges) {
                    growOf(a, v, w);
                }
            }
        }
        new Scene("7 times 0").keep(LEAST).due(grow(0, 0, 0), 1).due(size(1), 1).due(small(1), 0).due(grow(0, 0, LEAST_INT), 2)
                .due(small(2), LEAST_INT).due(grow(0, 0, GREATEST_INT), 3).due(small(3), GREATEST_INT).ends();
    }

    private static void promise8FewestAndMostBytes() {
        new Scene("8 one byte").keep(0).keep(-1).keep(127).keep(-128).due(size(0), 1).due(size(1), 1).due(size(2), 1)
                .due(size(3), 1).due(size(4), INDEX).due(size(-1), INDEX).ends();
        new Scene("8 200 bytes").keep(GREATEST).keep(LEAST).keep(GREATEST.shiftRight(1)).due(size(0), 200).due(size(1), 200)
                .due(size(2), 200).due(size(3), INDEX).ends();
        new Scene("8 of the fortieth").keepUpTo(39).keep(-129).due(size(39), 2).due(size(40), INDEX).ends();
    }

    private static void promise9FirstAndLastByte() {
        new Scene("9 of one byte").keep(-2).due(byteAt(0, 0), 254).due(byteAt(0, 1), INDEX).due(byteAt(0, -1), INDEX).ends();
        new Scene("9 of three bytes").keep(0x12_80_ff).due(byteAt(0, 0), 0x12).due(byteAt(0, 1), 0x80).due(byteAt(0, 2), 0xff)
                .due(byteAt(0, 3), INDEX).due(byteAt(0, -1), INDEX).ends();
        new Scene("9 of 200 bytes").keep(LEAST.add(BigInteger.TWO)).due(byteAt(0, 0), 128).due(byteAt(0, 199), 2)
                .due(byteAt(0, 200), INDEX).due(byteAt(0, -1), INDEX).due(byteAt(0, LEAST_INT), INDEX)
                .due(byteAt(0, GREATEST_INT), INDEX).ends();
        new Scene("9 not into the next number").keep(7).keep(0x0809).due(byteAt(0, 1), INDEX).due(byteAt(1, 0), 8)
                .due(byteAt(1, -1), INDEX).ends();
        new Scene("9 not into a longer one that went").keep(LEAST).then(clear()).keep(7).due(byteAt(0, 0), 7)
                .due(byteAt(0, 1), INDEX).due(byteAt(0, 199), INDEX).due(size(0), 1).ends();
    }

    private static void nextTo(BigInteger a) {
        new Scene("10 " + a + " and the next").keep(a).keep(a.add(ONE)).due(compare(0, 1), -1).due(compare(1, 0), 1)
                .due(compare(0, 0), 0).due(compare(1, 1), 0).ends();
    }

    private static void promise10OneAndTheNext() {
        for (long a : new long[] {0, -1, -2, 1, 126, 127, 128, 255, 256, -128, -129, -130, -256, -257, 32767, -32769,
            GREATEST_INT, LEAST_INT, -1L + LEAST_INT, Long.MAX_VALUE, Long.MIN_VALUE}) {
            nextTo(BigInteger.valueOf(a));
        }
        nextTo(LEAST);
        nextTo(GREATEST.subtract(ONE));
        new Scene("10 the farthest").keep(LEAST).keep(GREATEST).keep(0).keep(-1).due(compare(0, 1), -1).due(compare(1, 0), 1)
                .due(compare(0, 3), -1).due(compare(3, 0), 1).due(compare(1, 2), 1).due(compare(2, 1), -1).due(compare(2, 3), 1).ends();
        new Scene("10 bytes in their order").keep(0x0102).keep(0x0201).keep(-0x0102).keep(-0x0201).due(compare(0, 1), -1)
                .due(compare(1, 0), 1).due(compare(2, 3), 1).due(compare(3, 2), -1).ends();
    }

    private static void promise10TheyAreOne() {
        new Scene("10 one number at two places").keep(LEAST).keep(LEAST).keep(0).then(digits(0, 5)).then(number(true))
                .due(compare(0, 1), 0).due(compare(1, 0), 0).due(compare(2, 3), 0).due(compare(0, 0), 0).ends();
    }

    private static void promise11GreatestAndLeastInt() {
        new Scene("11 the greatest int").keep(GREATEST_INT).keep(1L + GREATEST_INT).due(small(0), GREATEST_INT)
                .due(small(1), ARGUMENT).due(size(0), 4).due(size(1), 5).ends();
        new Scene("11 the least int").keep(LEAST_INT).keep(-1L + LEAST_INT).due(small(0), LEAST_INT)
                .due(small(1), ARGUMENT).due(size(0), 4).due(size(1), 5).ends();
        new Scene("11 no int at all").keep(GREATEST).keep(LEAST).keep(1L << 32).keep(-1L << 32).keep((1L << 32) - 1)
                .due(small(0), ARGUMENT).due(small(1), ARGUMENT).due(small(2), ARGUMENT).due(small(3), ARGUMENT)
                .due(small(4), ARGUMENT).ends();
        Scene scene = new Scene("11 of each size");
        int[] values = {0, -1, 127, -128, 128, -129, 255, 32767, -32768, 32768, -32769, 65535, 8388607, -8388608, 8388608, -8388609};
        for (int a = 0; a < values.length; a++) {
            scene.keep(values[a]).due(small(a), values[a]);
        }
        scene.ends();
    }

    private static void promise12NoNoughtsAhead() {
        new Scene("12 0").keep(0).due(print(0), 1).due(out(0), NOUGHT).due(out(1), INDEX).ends();
        new Scene("12 no noughts that were told").tell("0000000000042").then(number(false)).due(print(0), 2).due(out(0), '4')
                .due(out(1), '2').due(out(2), INDEX).ends();
        for (int n = 1; n <= 481; n++) {
            BigInteger beyond = BigInteger.TEN.pow(n);
            new Scene("12 " + n + " digits and one more").keep(beyond.subtract(ONE)).keep(beyond).due(print(0), n)
                    .due(out(0), NINE).due(out(n - 1), NINE).due(out(n), INDEX).due(print(1), n + 1).due(out(0), '1')
                    .due(out(1), NOUGHT).due(out(n), NOUGHT).due(out(n + 1), INDEX).played();
        }
    }

    private static void promise12SignOfNumbersBelowNought() {
        new Scene("12 -1, 0 and 1").keep(-1).keep(0).keep(1).due(print(0), 2).due(out(0), MINUS).due(out(1), '1')
                .due(print(1), 1).due(out(0), NOUGHT).due(print(2), 1).due(out(0), '1').ends();
        new Scene("12 least of a byte").keep(-128).due(print(0), 4).due(out(0), MINUS).due(out(1), '1').due(out(2), '2')
                .due(out(3), '8').due(out(4), INDEX).due(small(0), -128).ends();
        for (int n = 1; n <= 481; n++) {
            BigInteger beyond = BigInteger.TEN.pow(n).negate();
            new Scene("12 - and " + n + " digits and one more").keep(beyond.add(ONE)).keep(beyond).due(print(0), n + 1)
                    .due(out(0), MINUS).due(out(1), NINE).due(out(n), NINE).due(out(n + 1), INDEX).due(print(1), n + 2)
                    .due(out(0), MINUS).due(out(1), '1').due(out(2), NOUGHT).due(out(n + 1), NOUGHT).due(out(n + 2), INDEX).played();
        }
    }

    private static void promise12MostDigits() {
        new Scene("12 the greatest").keep(GREATEST).due(print(0), 482).due(count(3), 482).due(out(481), '7')
                .due(out(482), INDEX).ends();
        new Scene("12 the least").keep(LEAST).due(print(0), 483).due(count(3), 483).due(out(0), MINUS).due(out(482), '8')
                .due(out(483), INDEX).ends();
    }

    private static void promise12RefusedWritesNothing() {
        new Scene("12 refused, what was written stays").keep(-45).due(print(0), 3).due(print(1), INDEX).due(print(-1), INDEX)
                .due(count(3), 3).due(out(0), MINUS).due(out(1), '4').due(out(2), '5').ends();
        new Scene("12 refused, nothing was written").due(print(0), INDEX).due(count(3), 0).due(out(0), INDEX).ends();
    }

    private static void promise13BelowNought() {
        new Scene("13 0 and -1").keep(0).keep(-1).due(groups(0), 1).due(groups(1), ARGUMENT).due(count(3), 1).due(out(0), 0).ends();
        new Scene("13 the greatest and the least").keep(GREATEST).keep(LEAST).due(groups(0), 229).due(groups(1), ARGUMENT)
                .due(count(3), 229).ends();
        new Scene("13 128 and -128").keep(128).keep(-128).due(groups(1), ARGUMENT).due(count(3), 0).due(groups(0), 2)
                .due(out(0), 129).due(out(1), 0).ends();
    }

    private static void promise13RefusedWritesNothing() {
        new Scene("13 refused, what was written stays").keep(300).keep(-5).due(groups(0), 2).due(groups(1), ARGUMENT)
                .due(groups(2), INDEX).due(groups(-1), INDEX).due(count(3), 2).due(out(0), 130).due(out(1), 44)
                .due(back(), 2).due(small(2), 300).ends();
        new Scene("13 refused, nothing was written").keep(-5).due(groups(0), ARGUMENT).due(count(3), 0).due(out(0), INDEX)
                .due(back(), ARGUMENT).ends();
    }

    private static void promise14FirstAndLastByte() {
        new Scene("14 nothing written").due(out(0), INDEX).due(out(-1), INDEX).due(out(1), INDEX).ends();
        new Scene("14 printed").keep(-47).due(print(0), 3).due(out(0), MINUS).due(out(1), '4').due(out(2), '7').due(out(3), INDEX)
                .due(out(-1), INDEX).due(out(LEAST_INT), INDEX).due(out(GREATEST_INT), INDEX).ends();
        new Scene("14 groups").keep(300).due(groups(0), 2).due(out(0), 130).due(out(1), 44).due(out(2), INDEX)
                .due(out(-1), INDEX).ends();
    }

    private static void promise14WhatWasWrittenLast() {
        new Scene("14 shorter than before").keep(LEAST).keep(5).due(print(0), 483).due(print(1), 1).due(out(0), '5')
                .due(out(1), INDEX).due(count(3), 1).ends();
        new Scene("14 groups behind digits").keep(12345).due(print(0), 5).due(groups(0), 2).due(out(0), 128 + 96)
                .due(out(1), 57).due(out(2), INDEX).ends();
        new Scene("14 digits behind groups").keep(GREATEST).keep(12).due(groups(0), 229).due(print(1), 2).due(out(0), '1')
                .due(out(1), '2').due(out(2), INDEX).ends();
        new Scene("14 reckoning writes nothing").keep(12).due(print(0), 2).due(sum(0, 0, false), 1).due(grow(1, 3, 1), 2)
                .due(small(2), 73).due(compare(1, 2), -1).due(out(0), '1').due(out(1), '2').due(count(3), 2).ends();
    }

    private static void promise15NothingWritten() {
        new Scene("15 nothing written").due(back(), ARGUMENT).due(count(0), 0).ends();
        new Scene("15 nothing written of a number").keep(5).then(digits(5, 1)).then(bytes(5, 1)).due(back(), ARGUMENT)
                .due(count(0), 1).due(count(1), 1).due(count(2), 1).ends();
    }

    private static void promise15PrintedIsReadAsGroups() {
        for (int digit = 0; digit <= 9; digit++) {
            new Scene("15 one digit is one group").keep(digit).due(print(0), 1).due(back(), 1).due(small(1), NOUGHT + digit)
                    .due(count(3), 1).due(back(), 2).ends();
        }
    }

    private static void notGroups(BigInteger printed) {
        new Scene("15 no groups, " + printed).keep(printed).then(print(0)).then(digits(5, 1)).then(bytes(5, 1))
                .due(back(), ARGUMENT).due(count(0), 1).due(count(3), printed.toString().length()).ends();
    }

    private static void promise15NotGroupsOfOneNumber() {
        for (long printed : new long[] {10, 11, 99, 100, -1, -9, -10, 1234567890123L}) {
            notGroups(BigInteger.valueOf(printed));
        }
        notGroups(BigInteger.TEN.pow(228));
        notGroups(BigInteger.TEN.pow(229));
        notGroups(GREATEST);
        notGroups(LEAST);
        new Scene("15 groups, then digits").keep(300).due(groups(0), 2).due(back(), 1).due(print(0), 3).due(back(), ARGUMENT)
                .due(groups(0), 2).due(back(), 2).due(compare(1, 2), 0).ends();
    }

    private static void promise15MostGroups() {
        new Scene("15 0").keep(0).due(groups(0), 1).due(back(), 1).due(size(1), 1).due(small(1), 0).ends();
        new Scene("15 127 and 128").keep(127).keep(128).due(groups(0), 1).due(back(), 2).due(groups(1), 2).due(back(), 3)
                .due(small(2), 127).due(small(3), 128).ends();
        new Scene("15 the greatest").keep(GREATEST).due(groups(0), 229).due(back(), 1).due(size(1), 200).due(compare(0, 1), 0)
                .due(count(3), 229).ends();
        for (int n = 1; n <= 228; n++) {
            BigInteger beyond = ONE.shiftLeft(7 * n);
            new Scene("15 " + n + " groups and one more").keep(beyond.subtract(ONE)).keep(beyond).due(groups(0), n)
                    .due(back(), 2).due(compare(0, 2), 0).due(groups(1), n + 1).due(back(), 3).due(compare(1, 3), 0).played();
        }
    }

    private static void promise16NoneAndForty() {
        new Scene("16 none").due(clear(), 0).due(count(0), 0).due(clear(), 0).ends();
        new Scene("16 one").keep(5).due(clear(), 1).due(count(0), 0).due(size(0), INDEX).due(clear(), 0).ends();
        new Scene("16 forty").keepUpTo(40).due(clear(), 40).due(count(0), 0).due(size(0), INDEX).due(size(39), INDEX)
                .due(clear(), 0).ends();
        new Scene("16 forty again").keepUpTo(40).due(clear(), 40).keepUpTo(39).due(bytes(-7, 1), 1).due(contents(), 39)
                .due(small(39), -7).due(grow(0, 1, 1), UNSUPPORTED).due(clear(), 40).ends();
        new Scene("16 places begin anew").keep(LEAST).then(grow(0, 1, 1)).due(clear(), 2).then(digits(1, 1))
                .due(number(false), 0).due(size(0), 1).due(small(0), 1).due(size(1), INDEX).ends();
    }

    private static void promise16WhatWaitsStays() {
        new Scene("16 digits stay").keep(5).tell("123456789012").due(clear(), 1).due(count(1), 12).due(digits(3, 1), 13)
                .due(number(true), 0).due(print(0), 14).due(out(13), '3').ends();
        new Scene("16 bytes stay").keep(5).then(bytes(0x123456, 3)).due(clear(), 1).due(count(2), 3).due(bytes(0x78, 1), 4)
                .due(contents(), 0).due(small(0), 0x12345678).ends();
        new Scene("16 the most digits and bytes stay").keep(5).tell("7".repeat(480)).tellBytes(LEAST.toByteArray())
                .due(clear(), 1).due(count(1), 480).due(count(2), 200).due(digits(1, 1), STATE).due(bytes(1, 1), STATE).ends();
    }

    private static void promise17AnotherWhat() {
        Scene scene = new Scene("17 another what").keep(5).keep(12345).then(digits(1, 7)).then(bytes(1, 3)).then(print(1));
        scene.due(count(0), 2).due(count(1), 7).due(count(2), 3).due(count(3), 5);
        scene.due(count(-1), NumberContents.NONE).due(count(4), NumberContents.NONE).due(count(5), -1).due(count(-2), -1);
        scene.due(count(LEAST_INT), -1).due(count(GREATEST_INT), -1).due(count(256), -1).ends();
    }

    private static void promise17NoneAndMost() {
        new Scene("17 none").due(count(0), 0).due(count(1), 0).due(count(2), 0).due(count(3), 0).ends();
        new Scene("17 the most").keep(LEAST).keepUpTo(40).tell("6".repeat(480)).tellBytes(GREATEST.toByteArray())
                .due(print(0), 483).due(count(0), 40).due(count(1), 480).due(count(2), 200).due(count(3), 483).ends();
    }
}
