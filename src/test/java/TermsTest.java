import java.math.BigInteger;
import java.util.List;

/** The boundary cases that the document's terms name, a test for each sentence. */
public final class TermsTest extends Calls {
    private static final BigInteger ONE = BigInteger.ONE;
    private static final BigInteger GREATEST = ONE.shiftLeft(1599).subtract(ONE);
    private static final BigInteger LEAST = ONE.shiftLeft(1599).negate();
    private static final int MOST_BYTES = 200;

    private TermsTest() {
    }

    public static void main(String[] args) {
        usedForAtMost512Calls();
        upToFortyNumbers();
        inTheOrderInWhichTheyCame();
        highestBitForNumbersBelowNought();
        asFewBytesAsCanBe();
        noughtIsAByteNought();
        atMost200BytesBySum();
        atMost200BytesByGrow();
        atMost480Digits();
        digitsMayBeginWithNoughts();
        atMost200BytesWait();
        rowsAreTwo();
        groupsAsFewAsCanBe();
        atLeastOneGroup();
        allGroupsButTheLastWith128More();
        firstExceptionOfSeveral();
        indexWhenThereIsNoNumber();
        indexComesFirst();
        fortyTakesWhatWaits();
        refusedForItsBytesItKeepsNothing();
        Report.end();
    }

    /** The greatest number of n bytes; one more needs n + 1. */
    private static BigInteger greatestOf(int n) {
        return ONE.shiftLeft(8 * n - 1).subtract(ONE);
    }

    /** The least number of n bytes; one less needs n + 1. */
    private static BigInteger leastOf(int n) {
        return ONE.shiftLeft(8 * n - 1).negate();
    }

    private static void usedForAtMost512Calls() {
        List<Call> last = List.of(digits(7, 3), number(true), bytes(5, 2), contents(), sum(0, 1, true), grow(1, 3, -1), size(1),
                byteAt(1, 1), compare(0, 1), small(1), print(1), groups(1), out(0), back(), clear(), count(1));
        List<Integer> due = List.of(7, 2, 3, 2, 2, 2, 2, 44, -1, 300, 3, 2, 130, 2, 2, 4);
        for (int i = 0; i < last.size(); i++) {
            new Scene("T the 512th call").keep(-9).keep(300).then(groups(1)).then(digits(12, 4)).then(bytes(77, 1))
                    .waitUpToCall(511).due(last.get(i), due.get(i)).played();
        }
    }

    private static void upToFortyNumbers() {
        List<Call> ways = List.of(number(false), contents(), sum(3, 4, false), grow(3, 2, 1), back());
        for (Call way : ways) {
            Scene scene = new Scene("T up to 40, the last by " + way).keepUpTo(39).then(groups(5));
            scene.then(digits(7, 1)).then(bytes(7, 1)).due(way, 39).due(count(0), 40).due(size(39), 1);
            scene.then(digits(8, 1)).then(bytes(8, 1)).due(way, UNSUPPORTED).due(count(0), 40).due(size(40), INDEX);
            scene.due(small(0), 0).due(small(38), 38).ends();
        }
        Scene most = new Scene("T up to 40 of 200 bytes each").keep(LEAST.add(BigInteger.TEN.pow(50)));
        for (int a = 1; a < 40; a++) {
            most.due(grow(a - 1, -1, 1000 * a), a).due(size(a), 200);
        }
        most.due(grow(0, 1, 1), UNSUPPORTED).due(count(0), 40).due(compare(0, 1), -1).due(compare(38, 39), -1).ends();
    }

    private static void inTheOrderInWhichTheyCame() {
        Scene scene = new Scene("T the order in which they came");
        scene.due(bytes(-3, 1), 1).due(digits(4, 1), 1).due(number(false), 0).due(contents(), 1).due(sum(0, 1, true), 2);
        scene.due(grow(2, 10, 1), 3).due(groups(3), 1).due(back(), 4).due(small(0), 4).due(small(1), -3).due(small(2), 7);
        scene.due(small(3), 71).due(small(4), 71).ends();
    }

    private static void highestBitForNumbersBelowNought() {
        new Scene("T 127 and 128").keep(127).keep(128).due(size(0), 1).due(byteAt(0, 0), 127)
                .due(size(1), 2).due(byteAt(1, 0), 0).due(byteAt(1, 1), 128).ends();
        new Scene("T -128 and -129").keep(-128).keep(-129).due(size(0), 1).due(byteAt(0, 0), 128)
                .due(size(1), 2).due(byteAt(1, 0), 255).due(byteAt(1, 1), 127).ends();
        new Scene("T 255, 256, -256, -257").keep(255).keep(256).keep(-256).keep(-257)
                .due(byteAt(0, 0), 0).due(byteAt(0, 1), 255).due(byteAt(1, 0), 1).due(byteAt(1, 1), 0)
                .due(byteAt(2, 0), 255).due(byteAt(2, 1), 0).due(byteAt(3, 0), 254).due(byteAt(3, 1), 255).ends();
    }

    private static void asFewBytesAsCanBe() {
        for (int n = 1; n < MOST_BYTES; n++) {
            fewestByContents(n);
            fewestByNumber(n);
            fewestBySum(n);
            fewestByGrow(n);
            fewestByBack(n);
        }
    }

    private static void fewestByContents(int n) {
        new Scene("T as few as can be by contents, " + n).keep(greatestOf(n)).keep(leastOf(n))
                .keep(greatestOf(n).add(ONE)).keep(leastOf(n).subtract(ONE))
                .due(size(0), n).due(size(1), n).due(size(2), n + 1).due(size(3), n + 1)
                .due(byteAt(0, 0), 127).due(byteAt(1, 0), 128).due(byteAt(2, 0), 0).due(byteAt(3, 0), 255).played();
    }

    private static void fewestByNumber(int n) {
        String digits = greatestOf(n).toString();
        String more = greatestOf(n).add(ONE).toString();
        String most = greatestOf(n).add(BigInteger.TWO).toString();
        new Scene("T as few as can be by number, " + n).tell(digits).due(number(false), 0).tell(more).due(number(true), 1)
                .tell(more).due(number(false), 2).tell(most).due(number(true), 3)
                .due(size(0), n).due(size(1), n).due(size(2), n + 1).due(size(3), n + 1)
                .due(byteAt(0, 0), 127).due(byteAt(1, 0), 128).due(byteAt(2, 0), 0).due(byteAt(3, 0), 255).played();
    }

    private static void fewestBySum(int n) {
        new Scene("T as few as can be by sum, " + n).keep(greatestOf(n)).keep(leastOf(n)).keep(1)
                .due(sum(0, 2, false), 3).due(sum(3, 2, true), 4).due(sum(1, 2, true), 5).due(sum(5, 2, false), 6)
                .due(size(3), n + 1).due(size(4), n).due(size(5), n + 1).due(size(6), n)
                .due(compare(4, 0), 0).due(compare(6, 1), 0).due(sum(0, 0, true), 7).due(size(7), 1).due(byteAt(7, 0), 0)
                .due(sum(0, 1, false), 8).due(size(8), 1).due(byteAt(8, 0), 255).played();
    }

    private static void fewestByGrow(int n) {
        new Scene("T as few as can be by grow, " + n).keep(greatestOf(n)).keep(leastOf(n))
                .due(grow(0, 1, 1), 2).due(grow(2, 1, -1), 3).due(grow(1, 1, -1), 4).due(grow(4, 1, 1), 5)
                .due(size(2), n + 1).due(size(3), n).due(size(4), n + 1).due(size(5), n)
                .due(compare(3, 0), 0).due(compare(5, 1), 0).due(grow(0, 0, 0), 6).due(size(6), 1)
                .due(grow(0, -1, -1), 7).due(compare(7, 1), 0).due(size(7), n)
                .due(grow(1, -1, 0), 8).due(compare(8, 2), 0).due(size(8), n + 1).played();
    }

    private static void fewestByBack(int n) {
        new Scene("T as few as can be by back, " + n).keep(greatestOf(n)).keep(greatestOf(n).add(ONE))
                .then(groups(0)).due(back(), 2).due(size(2), n).due(compare(0, 2), 0)
                .then(groups(1)).due(back(), 3).due(size(3), n + 1).due(compare(1, 3), 0).played();
    }

    private static void noughtIsAByteNought() {
        Scene scene = new Scene("T 0 is a byte 0").due(digits(0, 1), 1).due(number(false), 0).due(bytes(0, 1), 1);
        scene.due(contents(), 1).due(sum(0, 1, true), 2).due(grow(0, GREATEST_INT, 0), 3).due(groups(0), 1).due(back(), 4);
        for (int a = 0; a < 5; a++) {
            scene.due(size(a), 1).due(byteAt(a, 0), 0).due(byteAt(a, 1), INDEX);
        }
        scene.ends();
    }

    private static void sumOf(BigInteger a, BigInteger b, boolean minus, boolean fits) {
        Scene scene = new Scene("T at most 200 bytes, " + a + (minus ? " - " : " + ") + b).keep(a).keep(b).then(print(0));
        scene.due(sum(0, 1, minus), fits ? "2" : UNSUPPORTED).due(count(0), fits ? 3 : 2);
        scene.due(size(2), fits ? "200" : INDEX).ends();
    }

    private static void atMost200BytesBySum() {
        BigInteger minusOne = ONE.negate();
        sumOf(GREATEST, BigInteger.ZERO, false, true);
        sumOf(GREATEST.subtract(ONE), ONE, false, true);
        sumOf(GREATEST, ONE, false, false);
        sumOf(ONE, GREATEST, false, false);
        sumOf(GREATEST, minusOne, true, false);
        sumOf(GREATEST, GREATEST, false, false);
        sumOf(GREATEST, LEAST, true, false);
        sumOf(LEAST, BigInteger.ZERO, true, true);
        sumOf(LEAST.add(ONE), ONE, true, true);
        sumOf(LEAST, ONE, true, false);
        sumOf(LEAST, minusOne, false, false);
        sumOf(minusOne, LEAST, false, false);
        sumOf(LEAST, LEAST, false, false);
        sumOf(LEAST, GREATEST, true, false);
        sumOf(BigInteger.ZERO, GREATEST, true, true);
        sumOf(minusOne, GREATEST, true, true);
        sumOf(BigInteger.ZERO, LEAST, true, false);
        sumOf(minusOne, LEAST, true, true);
        new Scene("T at most 200 bytes, one number twice").keep(ONE.shiftLeft(1598)).keep(ONE.shiftLeft(1598).negate())
                .due(sum(0, 0, false), UNSUPPORTED).due(sum(1, 1, false), 2).due(size(2), 200).due(byteAt(2, 0), 128).ends();
    }

    private static void growOf(BigInteger a, int v, int w, boolean fits) {
        Scene scene = new Scene("T at most 200 bytes, " + a + " * " + v + " + " + w).keep(a).then(print(0));
        scene.due(grow(0, v, w), fits ? "1" : UNSUPPORTED).due(count(0), fits ? 2 : 1);
        scene.due(size(1), fits ? "200" : INDEX).ends();
    }

    private static void atMost200BytesByGrow() {
        growOf(GREATEST, 1, 0, true);
        growOf(GREATEST, 1, 1, false);
        growOf(GREATEST, 1, GREATEST_INT, false);
        growOf(GREATEST.subtract(BigInteger.valueOf(GREATEST_INT)), 1, GREATEST_INT, true);
        growOf(GREATEST, -1, 0, true);
        growOf(GREATEST, -1, -1, true);
        growOf(GREATEST, -1, -2, false);
        growOf(GREATEST, 2, 0, false);
        growOf(GREATEST, GREATEST_INT, GREATEST_INT, false);
        growOf(GREATEST, LEAST_INT, LEAST_INT, false);
        growOf(LEAST, 1, 0, true);
        growOf(LEAST, 1, -1, false);
        growOf(LEAST, 1, LEAST_INT, false);
        growOf(LEAST.subtract(BigInteger.valueOf(LEAST_INT)), 1, LEAST_INT, true);
        growOf(LEAST, -1, 0, false);
        growOf(LEAST, -1, -1, true);
        growOf(LEAST, LEAST_INT, GREATEST_INT, false);
        growOf(LEAST, GREATEST_INT, LEAST_INT, false);
        growOf(ONE.shiftLeft(1598), 2, 0, false);
        growOf(ONE.shiftLeft(1598), 2, -1, true);
        growOf(ONE.shiftLeft(1598), -2, 0, true);
        growOf(ONE.shiftLeft(1598), -2, -1, false);
        growOf(ONE.shiftLeft(1568), LEAST_INT, 0, true);
        growOf(ONE.shiftLeft(1568), LEAST_INT, -1, false);
        growOf(ONE.shiftLeft(1568).negate(), LEAST_INT, 0, false);
        growOf(ONE.shiftLeft(1568).negate(), LEAST_INT, -1, true);
    }

    private static void atMost480Digits() {
        for (int n = 1; n <= 9; n++) {
            String whole = "1234567890".repeat(48).substring(n);
            new Scene("T 480 digits, the last " + n).tell(whole).due(digits(6, n), 480).due(digits(0, 1), STATE)
                    .due(count(1), 480).ends();
            new Scene("T 481 digits, the last " + n).tell(whole).tell("5").due(digits(6, n), STATE)
                    .due(count(1), 481 - n).ends();
        }
        new Scene("T again 480 digits").tell("9".repeat(480)).due(number(false), 0).tell("8".repeat(480)).due(count(1), 480)
                .due(digits(1, 1), STATE).due(number(true), 1).due(size(0), 200).due(size(1), 200).ends();
    }

    private static void digitsMayBeginWithNoughts() {
        new Scene("T noughts ahead").due(digits(0, 9), 9).due(digits(0, 9), 18).due(digits(12, 3), 21).due(number(false), 0)
                .due(small(0), 12).due(print(0), 2).due(out(0), '1').due(out(1), '2').ends();
        new Scene("T 480 noughts").tell("0".repeat(480)).due(digits(0, 1), STATE).due(number(true), 0).due(size(0), 1)
                .due(byteAt(0, 0), 0).ends();
        new Scene("T 479 noughts").tell("0".repeat(479) + "5").due(number(true), 0).due(small(0), -5).ends();
    }

    private static void atMost200BytesWait() {
        for (int n = 1; n <= 4; n++) {
            byte[] whole = GREATEST.subtract(BigInteger.TEN.pow(400)).shiftRight(8 * n).toByteArray();
            new Scene("T 200 bytes, the last " + n).tellBytes(whole).due(bytes(0x01020304, n), 200)
                    .due(bytes(0, 1), STATE).due(count(2), 200).ends();
            new Scene("T 201 bytes, the last " + n).tellBytes(whole).then(bytes(9, 1)).due(bytes(0x01020304, n), STATE)
                    .due(count(2), 201 - n).ends();
        }
        new Scene("T again 200 bytes").keep(GREATEST).tellBytes(LEAST.toByteArray()).due(count(2), 200)
                .due(bytes(1, 1), STATE).due(contents(), 1).due(size(0), 200).due(size(1), 200).ends();
    }

    private static void rowsAreTwo() {
        new Scene("T bytes in another row").tell("1".repeat(480)).due(bytes(7, 1), 1).due(count(1), 480)
                .tellBytes(GREATEST.shiftRight(8).toByteArray()).due(count(2), 200).due(number(false), 0).due(count(2), 200)
                .due(contents(), 1).ends();
        new Scene("T digits in another row").tellBytes(GREATEST.toByteArray()).due(digits(7, 1), 1).due(contents(), 0)
                .due(count(1), 1).due(number(false), 1).due(small(1), 7).ends();
    }

    private static void groupsAsFewAsCanBe() {
        for (int n = 1; n <= 228; n++) {
            BigInteger beyond = ONE.shiftLeft(7 * n);
            new Scene("T groups as few as can be, " + n).keep(beyond.subtract(ONE)).keep(beyond)
                    .due(groups(0), n).due(count(3), n).due(out(0), n == 1 ? 127 : 255).due(out(n - 1), 127).due(out(n), INDEX)
                    .due(groups(1), n + 1).due(count(3), n + 1).due(out(0), 129).due(out(n), 0).due(out(n + 1), INDEX).played();
        }
        new Scene("T the most groups").keep(GREATEST).due(groups(0), 229).due(out(0), 128 + 7).due(out(1), 255)
                .due(out(228), 127).due(out(229), INDEX).ends();
    }

    private static void atLeastOneGroup() {
        new Scene("T one group of 0").keep(0).due(groups(0), 1).due(count(3), 1).due(out(0), 0).due(out(1), INDEX).ends();
        new Scene("T one group of 1").keep(1).due(groups(0), 1).due(out(0), 1).due(out(1), INDEX).ends();
    }

    private static void allGroupsButTheLastWith128More() {
        new Scene("T 128 more").keep(ONE.shiftLeft(42)).due(groups(0), 7).due(out(0), 129).due(out(1), 128)
                .due(out(5), 128).due(out(6), 0).ends();
        new Scene("T seven bits each, the highest first").keep((5 << 14) + (6 << 7) + 7).due(groups(0), 3)
                .due(out(0), 128 + 5).due(out(1), 128 + 6).due(out(2), 7).ends();
    }

    private static void firstExceptionOfSeveral() {
        new Scene("T digits, argument before state").tell("7".repeat(480)).due(digits(10, 1), ARGUMENT)
                .due(digits(1, 0), ARGUMENT).due(digits(1, 10), ARGUMENT).due(digits(-1, 1), ARGUMENT)
                .due(digits(1, 1), STATE).ends();
        new Scene("T bytes, argument before state").tellBytes(GREATEST.toByteArray()).due(bytes(1, 0), ARGUMENT)
                .due(bytes(1, 5), ARGUMENT).due(bytes(1, 1), STATE).ends();
        new Scene("T number, state before forty").keepUpTo(40).due(number(false), STATE).due(number(true), STATE)
                .then(digits(1, 1)).due(number(false), UNSUPPORTED).due(number(false), STATE).ends();
        new Scene("T contents, state before forty").keepUpTo(40).due(contents(), STATE).then(bytes(1, 1))
                .due(contents(), UNSUPPORTED).due(contents(), STATE).ends();
        new Scene("T contents, argument before forty").keepUpTo(40).then(bytes(1, 2)).due(contents(), ARGUMENT)
                .due(contents(), STATE).ends();
        new Scene("T back, argument before forty").keepUpTo(40).due(back(), ARGUMENT).then(print(10)).due(back(), ARGUMENT)
                .then(print(9)).due(back(), UNSUPPORTED).ends();
    }

    private static List<Call> callsWithPlace(int a) {
        return List.of(sum(a, 0, false), sum(0, a, true), sum(a, a, true), grow(a, 1, 1), size(a), byteAt(a, 0), compare(a, 0),
                compare(0, a), compare(a, a), small(a), print(a), groups(a));
    }

    private static void indexWhenThereIsNoNumber() {
        for (int a : new int[] {-1, 3, 4, 40, 41, LEAST_INT, GREATEST_INT}) {
            Scene scene = new Scene("T no number " + a).keep(5).keep(-700).keep(6).then(print(1)).then(digits(3, 2));
            scene.then(bytes(3, 1));
            for (Call call : callsWithPlace(a)) {
                scene.due(call, INDEX);
            }
            scene.ends();
        }
        Scene none = new Scene("T no number in a new object");
        Scene gone = new Scene("T no number when all went").keep(5).then(clear());
        for (Call call : callsWithPlace(0)) {
            none.due(call, INDEX);
            gone.due(call, INDEX);
        }
        none.ends();
        gone.ends();
    }

    private static void indexComesFirst() {
        for (int a : new int[] {-1, 40, LEAST_INT, GREATEST_INT}) {
            new Scene("T index before forty, " + a).keepUpTo(40).due(sum(a, 0, false), INDEX).due(sum(39, a, false), INDEX)
                    .due(grow(a, 1, 1), INDEX).due(sum(39, 0, false), UNSUPPORTED).due(grow(39, 1, 1), UNSUPPORTED).ends();
        }
        new Scene("T index before more than 200 bytes").keep(GREATEST).due(sum(0, 1, false), INDEX).due(sum(1, 0, false), INDEX)
                .due(grow(1, 2, 2), INDEX).due(sum(0, 0, false), UNSUPPORTED).due(grow(0, 2, 2), UNSUPPORTED).ends();
        new Scene("T index of no number before its bytes").keep(1).due(byteAt(1, 0), INDEX).due(byteAt(-1, 0), INDEX)
                .due(byteAt(1, 1), INDEX).due(byteAt(0, 0), 1).ends();
    }

    private static void fortyTakesWhatWaits() {
        new Scene("T forty, number's digits are gone").keepUpTo(40).then(digits(123, 5)).then(bytes(300, 2))
                .due(number(true), UNSUPPORTED).due(count(1), 0).due(count(2), 2).due(count(0), 40).ends();
        new Scene("T forty, later digits come alone").keepUpTo(40).then(digits(123, 3)).due(number(false), UNSUPPORTED)
                .due(digits(4, 1), 1).due(clear(), 40).due(number(false), 0).due(small(0), 4).ends();
        new Scene("T forty, contents' bytes are gone").keepUpTo(40).then(digits(123, 5)).then(bytes(300, 2))
                .due(contents(), UNSUPPORTED).due(count(1), 5).due(count(2), 0).due(count(0), 40).ends();
        new Scene("T forty, later bytes come alone").keepUpTo(40).then(bytes(300, 2)).due(contents(), UNSUPPORTED)
                .due(bytes(4, 1), 1).due(clear(), 40).due(contents(), 0).due(small(0), 4).ends();
        Scene scene = new Scene("T forty, what others do not take waits on").keepUpTo(40).then(groups(7));
        scene.then(digits(123, 5)).then(bytes(300, 2)).due(sum(1, 2, false), UNSUPPORTED).due(grow(1, 2, 3), UNSUPPORTED);
        scene.due(back(), UNSUPPORTED).due(count(1), 5).due(count(2), 2).due(count(3), 1).ends();
    }

    private static void refusedForItsBytesItKeepsNothing() {
        Scene scene = new Scene("T more than 200 bytes, nothing else changes").keep(GREATEST).keep(LEAST).then(groups(0));
        scene.then(digits(123, 5)).then(bytes(300, 2)).due(sum(0, 0, false), UNSUPPORTED).due(sum(1, 0, true), UNSUPPORTED);
        scene.due(grow(0, 3, 0), UNSUPPORTED).due(grow(1, 1, -1), UNSUPPORTED).due(count(0), 2).due(count(1), 5);
        scene.due(count(2), 2).due(count(3), 229).due(sum(0, 1, false), 2).due(small(2), -1).ends();
    }
}
