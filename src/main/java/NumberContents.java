/**
 * Whole numbers of any size as they are told in texts and as bytes with sign, the highest first, as few as can be;
 * one made of the other, compared, added, and in groups of seven bits.
 *
 * All rows are made once, with the object, so that no call but the constructor makes anything (exceptions aside).
 */
public final class NumberContents {
    public static final int NONE = -1;

    private static final int MOST_NUMBERS = 40;
    private static final int MOST_BYTES = 200;
    private static final int MOST_DIGITS = 480;

    /** Four more than a kept number has: as many as its product with an int, and an int more, can need. */
    private static final int WIDE_BYTES = MOST_BYTES + 4;

    /** Digits are turned nine at a time: the highest power of ten that is an int. */
    private static final int CHUNK = 1000000000;
    private static final int CHUNK_DIGITS = 9;

    /** 200 bytes with sign go to 2 to the power of 1599, which has 482 digits. */
    private static final int MOST_CHUNKS = 54;

    /** 200 bytes have 1599 bits beside the sign. */
    private static final int MOST_GROUPS = 229;

    /** All chunks whole, before the noughts ahead are dropped, and the sign. */
    private static final int MOST_WRITTEN = MOST_CHUNKS * CHUNK_DIGITS + 1;

    private static final int MINUS_SIGN = 45;
    private static final int DIGIT_NOUGHT = 48;
    private static final int MORE_GROUPS = 128;

    private final Numbers kept;
    private final Row digitRow;
    private final Row byteRow;
    private final Row written;
    private final Wide wide;

    public NumberContents() {
        kept = new Numbers();
        digitRow = new Row(MOST_DIGITS);
        byteRow = new Row(MOST_BYTES);
        written = new Row(MOST_WRITTEN);
        wide = new Wide();
    }

    public int digits(int v, int n) throws IllegalArgumentException, IllegalStateException {
        if (n < 1 || n > CHUNK_DIGITS || v < 0 || v >= powerOfTen(n)) {
            throw new IllegalArgumentException("not 1 to 9 digits of a number from 0 on");
        }
        if (!digitRow.hasRoom(n)) {
            throw new IllegalStateException("more than 480 digits");
        }
        for (int unit = powerOfTen(n - 1); unit > 0; unit /= 10) {
            digitRow.add(v / unit % 10);
        }
        return digitRow.length();
    }

    public int number(boolean minus) throws IllegalStateException, UnsupportedOperationException {
        if (digitRow.length() == 0) {
            throw new IllegalStateException("no digits wait");
        }
        loadDigits();
        digitRow.empty();
        if (minus) {
            wide.multiplyAndAdd(-1, 0);
        }
        return keepWide();
    }

    public int bytes(int v, int n) throws IllegalArgumentException, IllegalStateException {
        if (n < 1 || n > 4) {
            throw new IllegalArgumentException("not 1 to 4 bytes");
        }
        if (!byteRow.hasRoom(n)) {
            throw new IllegalStateException("more than 200 bytes");
        }
        for (int shift = 8 * (n - 1); shift >= 0; shift -= 8) {
            byteRow.add(v >> shift & 255);
        }
        return byteRow.length();
    }

    public int contents() throws IllegalStateException, IllegalArgumentException, UnsupportedOperationException {
        int told = byteRow.length();
        if (told == 0) {
            throw new IllegalStateException("no bytes wait");
        }
        loadBytes();
        byteRow.empty();
        if (wide.fewestBytes() != told) {
            throw new IllegalArgumentException("not as few bytes as can be");
        }
        return keepWide();
    }

    public int sum(int a, int b, boolean minus) throws IndexOutOfBoundsException, UnsupportedOperationException {
        needNumber(a);
        needNumber(b);
        loadNumber(a);
        addNumber(b, minus ? -1 : 1);
        return keepWide();
    }

    public int grow(int a, int v, int w) throws IndexOutOfBoundsException, UnsupportedOperationException {
        needNumber(a);
        loadNumber(a);
        wide.multiplyAndAdd(v, w);
        return keepWide();
    }

    public int size(int a) throws IndexOutOfBoundsException {
        needNumber(a);
        return kept.sizeOf(a);
    }

    public int byteAt(int a, int i) throws IndexOutOfBoundsException {
        needNumber(a);
        if (i < 0 || i >= kept.sizeOf(a)) {
            throw new IndexOutOfBoundsException("no such byte of the number");
        }
        return kept.highByte(a, i);
    }

    public int compare(int a, int b) throws IndexOutOfBoundsException {
        needNumber(a);
        needNumber(b);
        boolean minus = kept.isMinus(a);
        if (minus != kept.isMinus(b)) {
            return minus ? -1 : 1;
        }
        int longer = Integer.compare(kept.sizeOf(a), kept.sizeOf(b));
        if (longer != 0) {
            return minus ? -longer : longer;
        }
        return compareBytes(a, b);
    }

    public int small(int a) throws IndexOutOfBoundsException, IllegalArgumentException {
        needNumber(a);
        int n = kept.sizeOf(a);
        if (n > 4) {
            throw new IllegalArgumentException("not an int");
        }
        int value = kept.isMinus(a) ? -1 : 0;
        for (int i = 0; i < n; i++) {
            value = value << 8 | kept.highByte(a, i);
        }
        return value;
    }

    public int print(int a) throws IndexOutOfBoundsException {
        needNumber(a);
        boolean minus = kept.isMinus(a);
        loadNumber(a);
        if (minus) {
            wide.multiplyAndAdd(-1, 0);
        }
        written.empty();
        writeDigitsLowestFirst();
        written.dropFromEnd(DIGIT_NOUGHT);
        if (minus) {
            written.add(MINUS_SIGN);
        }
        written.reverse();
        return written.length();
    }

    public int groups(int a) throws IndexOutOfBoundsException, IllegalArgumentException {
        needNumber(a);
        if (kept.isMinus(a)) {
            throw new IllegalArgumentException("no groups of a number below 0");
        }
        loadNumber(a);
        written.empty();
        for (int k = 0; k < MOST_GROUPS; k++) {
            written.add(wide.sevenBits(k) + (k == 0 ? 0 : MORE_GROUPS));
        }
        written.dropFromEnd(MORE_GROUPS);
        written.reverse();
        return written.length();
    }

    public int out(int i) throws IndexOutOfBoundsException {
        if (!written.has(i)) {
            throw new IndexOutOfBoundsException("no such byte written");
        }
        return written.itemAt(i);
    }

    public int back() throws IllegalArgumentException, UnsupportedOperationException {
        if (!isWrittenInGroups()) {
            throw new IllegalArgumentException("not the groups of one number");
        }
        wide.fill(0);
        int n = written.length();
        for (int k = 0; k < n; k++) {
            wide.setSevenBits(k, written.itemAt(n - 1 - k) & 127);
        }
        return keepWide();
    }

    public int clear() {
        int before = kept.howMany();
        kept.empty();
        return before;
    }

    public int count(int what) {
        switch (what) {
            case 0:
                return kept.howMany();
            case 1:
                return digitRow.length();
            case 2:
                return byteRow.length();
            case 3:
                return written.length();
            default:
                return NONE;
        }
    }

    private static int powerOfTen(int n) {
        int power = 1;
        for (int i = 0; i < n && i < CHUNK_DIGITS; i++) {
            power *= 10;
        }
        return power;
    }

    private void needNumber(int a) throws IndexOutOfBoundsException {
        if (!kept.has(a)) {
            throw new IndexOutOfBoundsException("no number there");
        }
    }

    private int keepWide() throws UnsupportedOperationException {
        int n = wide.fewestBytes();
        if (!kept.hasRoom() || n > MOST_BYTES) {
            throw new UnsupportedOperationException("more than 40 numbers, or more than 200 bytes");
        }
        return kept.add(wide, n);
    }

    private void loadNumber(int a) {
        wide.fill(0);
        addNumber(a, 1);
    }

    /** Bytes above the number's highest one say its sign again, so that numbers of any two sizes can be added. */
    private void addNumber(int a, int times) {
        int n = kept.sizeOf(a);
        int filler = kept.isMinus(a) ? 255 : 0;
        int carry = 0;
        for (int i = 0; i < WIDE_BYTES; i++) {
            int item = i < n ? kept.lowByte(a, i) : filler;
            carry = wide.addAt(i, times * item + carry);
        }
    }

    private void loadDigits() {
        wide.fill(0);
        int unit = 1;
        int value = 0;
        for (int i = 0; i < digitRow.length(); i++) {
            unit *= 10;
            value = value * 10 + digitRow.itemAt(i);
            if (unit == CHUNK) {
                wide.multiplyAndAdd(unit, value);
                unit = 1;
                value = 0;
            }
        }
        wide.multiplyAndAdd(unit, value);
    }

    private void loadBytes() {
        int n = byteRow.length();
        wide.fill(byteRow.itemAt(0) >= 128 ? 255 : 0);
        for (int i = 0; i < n; i++) {
            wide.setByte(i, byteRow.itemAt(n - 1 - i));
        }
    }

    /** Of one sign and one size, bytes with sign are in the same order as without. */
    private int compareBytes(int a, int b) {
        for (int i = 0; i < kept.sizeOf(a); i++) {
            int order = Integer.compare(kept.highByte(a, i), kept.highByte(b, i));
            if (order != 0) {
                return order;
            }
        }
        return 0;
    }

    private void writeDigitsLowestFirst() {
        int left = wide.bytesUsed(WIDE_BYTES);
        for (int k = 0; k < MOST_CHUNKS; k++) {
            writeChunkLowestFirst(wide.divideByChunk(left));
            left = wide.bytesUsed(left);
            if (left == 0) {
                break;
            }
        }
    }

    private void writeChunkLowestFirst(int chunk) {
        int rest = chunk;
        for (int i = 0; i < CHUNK_DIGITS; i++) {
            written.add(DIGIT_NOUGHT + rest % 10);
            rest /= 10;
        }
    }

    private boolean isWrittenInGroups() {
        int n = written.length();
        if (n == 0 || n > MOST_GROUPS || written.itemAt(0) == MORE_GROUPS) {
            return false;
        }
        for (int i = 0; i < n; i++) {
            boolean more = written.itemAt(i) >= MORE_GROUPS;
            if (more != (i < n - 1)) {
                return false;
            }
        }
        return true;
    }

    /** Digits or bytes in the order in which they came. */
    private static final class Row {
        private final int[] items;
        private int used;

        Row(int limit) {
            items = new int[Math.max(limit, 0)];
            used = 0;
        }

        int length() {
            return used;
        }

        boolean has(int i) {
            return i >= 0 && i < used;
        }

        int itemAt(int i) {
            return has(i) ? items[i] : 0;
        }

        boolean hasRoom(int n) {
            return n <= items.length - used;
        }

        void add(int item) {
            if (hasRoom(1)) {
                items[used] = item;
                used++;
            }
        }

        void empty() {
            used = 0;
        }

        /** One item stays always: a number has at least one digit, or one group. */
        void dropFromEnd(int item) {
            while (used > 1 && items[used - 1] == item) {
                used--;
            }
        }

        void reverse() {
            for (int i = 0; i < used / 2; i++) {
                int item = items[i];
                items[i] = items[used - 1 - i];
                items[used - 1 - i] = item;
            }
        }
    }

    /** The kept numbers, the lowest byte first, as reckoning wants them. */
    private static final class Numbers {
        private final int[] items;
        private final int[] sizes;
        private int used;

        Numbers() {
            items = new int[MOST_NUMBERS * MOST_BYTES];
            sizes = new int[MOST_NUMBERS];
            used = 0;
        }

        int howMany() {
            return used;
        }

        boolean has(int a) {
            return a >= 0 && a < used;
        }

        boolean hasRoom() {
            return used < MOST_NUMBERS;
        }

        int sizeOf(int a) {
            return has(a) ? sizes[a] : 0;
        }

        boolean isMinus(int a) {
            return lowByte(a, sizeOf(a) - 1) >= 128;
        }

        int highByte(int a, int i) {
            return lowByte(a, sizeOf(a) - 1 - i);
        }

        int lowByte(int a, int i) {
            return has(a) && i >= 0 && i < sizes[a] ? items[a * MOST_BYTES + i] : 0;
        }

        int add(Wide from, int n) {
            int a = used;
            if (from == null || !hasRoom() || n < 1 || n > MOST_BYTES) {
                return NONE;
            }
            for (int i = 0; i < n; i++) {
                items[a * MOST_BYTES + i] = from.byteOf(i);
            }
            sizes[a] = n;
            used++;
            return a;
        }

        void empty() {
            used = 0;
        }
    }

    /** A number with sign that is being made, the lowest byte first, the bytes above its highest one filled by its sign. */
    private static final class Wide {
        private final int[] items;

        Wide() {
            items = new int[WIDE_BYTES];
        }

        private static boolean isIndex(int i) {
            return i >= 0 && i < WIDE_BYTES;
        }

        int byteOf(int i) {
            return isIndex(i) ? items[i] : 0;
        }

        void setByte(int i, int item) {
            if (isIndex(i)) {
                items[i] = item;
            }
        }

        void fill(int item) {
            for (int i = 0; i < WIDE_BYTES; i++) {
                items[i] = item;
            }
        }

        /** Answers what is to be carried to the next byte; a borrowing is a carry below 0. */
        int addAt(int i, int more) {
            int total = byteOf(i) + more;
            setByte(i, total & 255);
            return total >> 8;
        }

        /** The sign needs no care: all is reckoned up to multiples of 256 to the power of WIDE_BYTES. */
        void multiplyAndAdd(int v, int w) {
            long carry = w;
            for (int i = 0; i < WIDE_BYTES; i++) {
                long total = items[i] * (long) v + carry;
                items[i] = (int) (total & 255);
                carry = total >> 8;
            }
        }

        int fewestBytes() {
            int n = WIDE_BYTES;
            int filler = items[WIDE_BYTES - 1] >= 128 ? 255 : 0;
            while (n > 1 && items[n - 1] == filler && (items[n - 2] & 128) == (filler & 128)) {
                n--;
            }
            return n;
        }

        /** How many of the lowest n bytes are left without noughts ahead: none for 0. */
        int bytesUsed(int n) {
            int left = Math.min(n, WIDE_BYTES);
            while (left > 0 && items[left - 1] == 0) {
                left--;
            }
            return left;
        }

        /** Divides a number from 0 on, of n bytes without noughts ahead; answers what is left over. */
        int divideByChunk(int n) {
            long rest = 0;
            for (int i = Math.min(n, WIDE_BYTES) - 1; i >= 0; i--) {
                long total = rest * 256 + items[i];
                items[i] = (int) (total / CHUNK);
                rest = total % CHUNK;
            }
            return (int) rest;
        }

        /** Group k, counted from the lowest; it may lie in two bytes. */
        int sevenBits(int k) {
            int i = 7 * k / 8;
            int shift = 7 * k % 8;
            return (byteOf(i) | byteOf(i + 1) << 8) >> shift & 127;
        }

        /** Only for bits that are 0 before. */
        void setSevenBits(int k, int bits) {
            int i = 7 * k / 8;
            int shifted = bits << 7 * k % 8;
            setByte(i, byteOf(i) | shifted & 255);
            setByte(i + 1, byteOf(i + 1) | shifted >> 8);
        }
    }
}
