import java.math.BigInteger;
import java.util.ArrayList;
import java.util.List;

/**
 * A run of calls on a new object, each with the answer that is due, and then a look at all that the object shows.
 *
 * For every look the object is made anew and the run called again: a look changes what it looks at, and nothing is
 * promised behind an object's 512th call.
 */
final class Scene extends Calls {
    static final int MOST_CALLS = 512;

    private final String name;
    private final List<Call> calls = new ArrayList<>();
    private final List<String> answers = new ArrayList<>();
    private final Model model = new Model();

    Scene(String name) {
        this.name = name;
    }

    /** The answer is told by the test; the model must not know better, as it says what the looks have to see. */
    Scene due(Call call, String want) {
        Report.same(name + ": the model's " + call, call.answerOf(model), want);
        calls.add(call);
        answers.add(want);
        return this;
    }

    Scene due(Call call, int want) {
        return due(call, Integer.toString(want));
    }

    /** A call that only leads up to what is tested. */
    Scene then(Call call) {
        calls.add(call);
        answers.add(call.answerOf(model));
        return this;
    }

    Scene tell(String digits) {
        for (int i = 0; i < digits.length(); i += 9) {
            String part = digits.substring(i, Math.min(i + 9, digits.length()));
            then(digits(Integer.parseInt(part), part.length()));
        }
        return this;
    }

    Scene tellBytes(byte[] all) {
        for (int i = 0; i < all.length; i += 4) {
            int n = Math.min(4, all.length - i);
            int v = 0;
            for (int k = 0; k < n; k++) {
                v = v << 8 | all[i + k] & 255;
            }
            then(bytes(v, n));
        }
        return this;
    }

    /** Told by bytes, as digits do not reach the numbers of the most bytes. */
    Scene keep(BigInteger value) {
        return tellBytes(value.toByteArray()).then(contents());
    }

    Scene keep(long value) {
        return keep(BigInteger.valueOf(value));
    }

    /** Keeps their own places as numbers, until there are so many. */
    Scene keepUpTo(int many) {
        for (int a = model.count(0); a < many; a++) {
            keep(a);
        }
        return this;
    }

    Scene waitUpToCall(int n) {
        while (calls.size() < n) {
            then(count(0));
        }
        return this;
    }

    /** To end a scene that has told all itself, or has no calls left for looks. */
    void played() {
        NumberContents x = new NumberContents();
        Report.same(name + ": calls within the limit", Boolean.toString(calls.size() <= MOST_CALLS), "true");
        for (int i = 0; i < calls.size(); i++) {
            Report.same(name + ": call " + (i + 1) + ", " + calls.get(i), calls.get(i).answerOf(x), answers.get(i));
        }
    }

    /** To end all others: the answers, and then everything that the face shows of the object. */
    void ends() {
        played();
        lookAtEach(List.of(), List.of(count(0), count(1), count(2), count(3)));
        lookAtEach(List.of(), numbersAndWritten());
        lookAtWhatIsKeptBy(number(false));
        lookAtWhatIsKeptBy(contents());
        lookAtWhatIsKeptBy(back());
    }

    /** What waits, or was written, is seen in the number that it makes; clear first, so that there is room for it. */
    private void lookAtWhatIsKeptBy(Call call) {
        Model meant = replayed();
        meant.clear();
        boolean isKept = call.answerOf(meant).equals("0");
        lookAtEach(List.of(clear(), call), isKept ? bytesOfNumber(0, meant.size(0)) : List.of(size(0)));
    }

    private Model replayed() {
        Model meant = new Model();
        for (Call call : calls) {
            call.answerOf(meant);
        }
        return meant;
    }

    private List<Call> numbersAndWritten() {
        List<Call> looks = new ArrayList<>();
        for (int a = 0; a < model.count(0); a++) {
            looks.addAll(bytesOfNumber(a, model.size(a)));
        }
        looks.add(size(model.count(0)));
        for (int i = 0; i <= model.count(3); i++) {
            looks.add(out(i));
        }
        return looks;
    }

    private static List<Call> bytesOfNumber(int a, int n) {
        List<Call> looks = new ArrayList<>();
        looks.add(size(a));
        for (int i = 0; i <= n; i++) {
            looks.add(byteAt(a, i));
        }
        return looks;
    }

    private void lookAtEach(List<Call> first, List<Call> looks) {
        int room = MOST_CALLS - calls.size() - first.size();
        if (room < 1) {
            throw new IllegalStateException(name + ": no calls left for looks");
        }
        for (int i = 0; i < looks.size(); i += room) {
            List<Call> part = new ArrayList<>(first);
            part.addAll(looks.subList(i, Math.min(i + room, looks.size())));
            look(part);
        }
    }

    private void look(List<Call> looks) {
        NumberContents x = new NumberContents();
        for (Call call : calls) {
            call.answerOf(x);
        }
        Model meant = replayed();
        for (Call call : looks) {
            Report.same(name + ": then " + call, call.answerOf(x), call.answerOf(meant));
        }
    }
}
