import java.math.BigInteger;
import java.util.ArrayList;
import java.util.List;

/** The document's words with the library's numbers: what each call is to answer. */
final class Model {
    private final List<BigInteger> kept = new ArrayList<>();
    private String digits = "";
    private List<Integer> bytes = new ArrayList<>();
    private List<Integer> written = new ArrayList<>();

    private BigInteger at(int a) {
        if (a < 0 || a >= kept.size()) {
            throw new IndexOutOfBoundsException();
        }
        return kept.get(a);
    }

    private int keep(BigInteger value) {
        if (kept.size() == 40 || value.toByteArray().length > 200) {
            throw new UnsupportedOperationException();
        }
        kept.add(value);
        return kept.size() - 1;
    }

    int digits(int v, int n) {
        if (n < 1 || n > 9 || v < 0 || Integer.toString(v).length() > n) {
            throw new IllegalArgumentException();
        }
        if (digits.length() + n > 480) {
            throw new IllegalStateException();
        }
        digits += "0".repeat(n - Integer.toString(v).length()) + v;
        return digits.length();
    }

    int number(boolean minus) {
        if (digits.isEmpty()) {
            throw new IllegalStateException();
        }
        BigInteger value = new BigInteger(digits);
        digits = "";
        return keep(minus ? value.negate() : value);
    }

    int bytes(int v, int n) {
        if (n < 1 || n > 4) {
            throw new IllegalArgumentException();
        }
        if (bytes.size() + n > 200) {
            throw new IllegalStateException();
        }
        for (int i = n - 1; i >= 0; i--) {
            bytes.add(v >>> 8 * i & 255);
        }
        return bytes.size();
    }

    int contents() {
        if (bytes.isEmpty()) {
            throw new IllegalStateException();
        }
        byte[] all = new byte[bytes.size()];
        for (int i = 0; i < all.length; i++) {
            all[i] = (byte) (int) bytes.get(i);
        }
        bytes = new ArrayList<>();
        BigInteger value = new BigInteger(all);
        if (value.toByteArray().length != all.length) {
            throw new IllegalArgumentException();
        }
        return keep(value);
    }

    int sum(int a, int b, boolean minus) {
        BigInteger first = at(a);
        BigInteger second = at(b);
        return keep(minus ? first.subtract(second) : first.add(second));
    }

    int grow(int a, int v, int w) {
        return keep(at(a).multiply(BigInteger.valueOf(v)).add(BigInteger.valueOf(w)));
    }

    int size(int a) {
        return at(a).toByteArray().length;
    }

    int byteAt(int a, int i) {
        byte[] all = at(a).toByteArray();
        if (i < 0 || i >= all.length) {
            throw new IndexOutOfBoundsException();
        }
        return all[i] & 255;
    }

    int compare(int a, int b) {
        BigInteger first = at(a);
        return first.compareTo(at(b));
    }

    int small(int a) {
        if (at(a).bitLength() > 31) {
            throw new IllegalArgumentException();
        }
        return at(a).intValue();
    }

    int print(int a) {
        String text = at(a).toString();
        written = new ArrayList<>();
        for (int i = 0; i < text.length(); i++) {
            written.add((int) text.charAt(i));
        }
        return written.size();
    }

    int groups(int a) {
        BigInteger left = at(a);
        if (left.signum() < 0) {
            throw new IllegalArgumentException();
        }
        written = new ArrayList<>();
        do {
            written.add(0, (left.intValue() & 127) + (written.isEmpty() ? 0 : 128));
            left = left.shiftRight(7);
        } while (left.signum() > 0);
        return written.size();
    }

    int out(int i) {
        if (i < 0 || i >= written.size()) {
            throw new IndexOutOfBoundsException();
        }
        return written.get(i);
    }

    int back() {
        if (written.isEmpty() || written.get(0) == 128) {
            throw new IllegalArgumentException();
        }
        BigInteger value = BigInteger.ZERO;
        for (int i = 0; i < written.size(); i++) {
            if (written.get(i) < 128 != (i == written.size() - 1)) {
                throw new IllegalArgumentException();
            }
            value = value.shiftLeft(7).add(BigInteger.valueOf(written.get(i) & 127));
        }
        return keep(value);
    }

    int clear() {
        int before = kept.size();
        kept.clear();
        return before;
    }

    int count(int what) {
        int[] counts = {kept.size(), digits.length(), bytes.size(), written.size()};
        return what >= 0 && what < 4 ? counts[what] : -1;
    }
}
