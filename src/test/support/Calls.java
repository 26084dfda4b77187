/** The calls of the face by their names, for the tests to inherit, and what they throw as the issues write it. */
abstract class Calls {
    static final String STATE = "throws.IllegalStateException";
    static final String ARGUMENT = "throws.IllegalArgumentException";
    static final String INDEX = "throws.IndexOutOfBoundsException";
    static final String UNSUPPORTED = "throws.UnsupportedOperationException";

    static final int LEAST_INT = Integer.MIN_VALUE;
    static final int GREATEST_INT = Integer.MAX_VALUE;

    static Call digits(int v, int n) {
        return new Call("digits(" + v + ", " + n + ")", x -> x.digits(v, n), x -> x.digits(v, n));
    }

    static Call number(boolean minus) {
        return new Call("number(" + minus + ")", x -> x.number(minus), x -> x.number(minus));
    }

    static Call bytes(int v, int n) {
        return new Call("bytes(" + v + ", " + n + ")", x -> x.bytes(v, n), x -> x.bytes(v, n));
    }

    static Call contents() {
        return new Call("contents()", x -> x.contents(), x -> x.contents());
    }

    static Call sum(int a, int b, boolean minus) {
        return new Call("sum(" + a + ", " + b + ", " + minus + ")", x -> x.sum(a, b, minus), x -> x.sum(a, b, minus));
    }

    static Call grow(int a, int v, int w) {
        return new Call("grow(" + a + ", " + v + ", " + w + ")", x -> x.grow(a, v, w), x -> x.grow(a, v, w));
    }

    static Call size(int a) {
        return new Call("size(" + a + ")", x -> x.size(a), x -> x.size(a));
    }

    static Call byteAt(int a, int i) {
        return new Call("byteAt(" + a + ", " + i + ")", x -> x.byteAt(a, i), x -> x.byteAt(a, i));
    }

    static Call compare(int a, int b) {
        return new Call("compare(" + a + ", " + b + ")", x -> x.compare(a, b), x -> x.compare(a, b));
    }

    static Call small(int a) {
        return new Call("small(" + a + ")", x -> x.small(a), x -> x.small(a));
    }

    static Call print(int a) {
        return new Call("print(" + a + ")", x -> x.print(a), x -> x.print(a));
    }

    static Call groups(int a) {
        return new Call("groups(" + a + ")", x -> x.groups(a), x -> x.groups(a));
    }

    static Call out(int i) {
        return new Call("out(" + i + ")", x -> x.out(i), x -> x.out(i));
    }

    static Call back() {
        return new Call("back()", x -> x.back(), x -> x.back());
    }

    static Call clear() {
        return new Call("clear()", x -> x.clear(), x -> x.clear());
    }

    static Call count(int what) {
        return new Call("count(" + what + ")", x -> x.count(what), x -> x.count(what));
    }
}
