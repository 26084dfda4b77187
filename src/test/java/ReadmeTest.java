import java.io.IOException;
import java.nio.file.Files;
import java.nio.file.Path;
import java.util.List;

/** README.md's example answers what its comments say, and each call of the face is told there. */
public final class ReadmeTest extends Calls {
    private static final String[] FACE = {"digits(v, n)", "number(minus)", "bytes(v, n)", "contents()", "sum(a, b, minus)",
        "grow(a, v, w)", "size(a)", "byteAt(a, i)", "compare(a, b)", "small(a)", "print(a)", "groups(a)", "out(i)", "back()",
        "clear()", "count(what)"};

    private static final String MAKING = "NumberContents x = new NumberContents();";

    /** A line of the example as it stands there, and the call that it makes with the places that came before. */
    private record Line(String text, Call call) {
    }

    private ReadmeTest() {
    }

    public static void main(String[] args) throws IOException {
        List<String> readme = Files.readAllLines(Path.of("README.md"));
        eachCallIsTold(readme);
        example(readme);
        Report.end();
    }

    private static void eachCallIsTold(List<String> readme) {
        for (String call : FACE) {
            Report.same("README.md tells " + call,
                    Boolean.toString(readme.stream().anyMatch(line -> line.startsWith("| `" + call + "` |"))), "true");
        }
    }

    /** Each line's comment begins with the answer. A changed line must be changed here too, or its answer is not tested. */
    private static void example(List<String> readme) {
        NumberContents x = new NumberContents();
        List<String> code = readme.subList(readme.indexOf(MAKING) + 1, readme.indexOf("```"));
        Line[] lines = {
            new Line("x.digits(1, 1);", digits(1, 1)),
            new Line("x.digits(234567, 8);", digits(234567, 8)),
            new Line("int a = x.number(true);", number(true)),
            new Line("x.bytes(0x0080, 2);", bytes(0x0080, 2)),
            new Line("int b = x.contents();", contents()),
            new Line("int c = x.sum(a, b, false);", sum(0, 1, false)),
            new Line("int n = x.print(c);", print(2)),
            new Line("int first = x.out(0);", out(0)),
            new Line("int groups = x.groups(b);", groups(1)),
            new Line("int d = x.back();", back()),
            new Line("int same = x.compare(b, d);", compare(1, 3)),
            new Line("int e = x.grow(d, -3, 5);", grow(3, -3, 5)),
            new Line("int value = x.small(e);", small(4)),
            new Line("int bytes = x.size(e);", size(4)),
            new Line("int high = x.byteAt(e, 0);", byteAt(4, 0)),
            new Line("int gone = x.clear();", clear()),
            new Line("int left = x.count(0);", count(0)),
        };
        Report.same("lines of README.md's example", Integer.toString(code.size()), Integer.toString(lines.length));
        for (int i = 0; i < Math.min(lines.length, code.size()); i++) {
            String[] codeAndAnswer = code.get(i).split("\\s*// |:");
            Report.same("README.md's example, line " + (i + 1), codeAndAnswer[0], lines[i].text());
            Report.same("README.md's " + lines[i].text(), lines[i].call().answerOf(x), codeAndAnswer[1]);
        }
    }
}
