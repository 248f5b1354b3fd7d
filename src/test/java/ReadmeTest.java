import java.io.IOException;
import java.nio.file.Files;
import java.nio.file.Path;
import java.util.ArrayList;
import java.util.List;

/** The README's example makes just these calls, and they answer what it tells. */
public final class ReadmeTest {
    private static final String FIRST_LINE = "ProofCompare proofs = new ProofCompare(12, 9);";
    private static final Due due = new Due();
    private static final List<String> made = new ArrayList<>();

    public static void main(String[] args) throws IOException {
        ProofCompare proofs = new ProofCompare(12, 9);
        made.add(FIRST_LINE);
        answers("point(0, 2, 2, 255)", () -> proofs.point(0, 2, 2, 255), 0);
        answers("bound(10, 1)", () -> proofs.bound(10, 1), 0);
        answers("differing()", () -> proofs.differing(), 1);
        answers("box(-1, 0)", () -> proofs.box(-1, 0), 1);
        answers("box(0, 2)", () -> proofs.box(0, 2), 2);
        answers("word(0, 7, 0, 0)", () -> proofs.word(0, 7, 0, 0), 0);
        answers("words(-1, 0)", () -> proofs.words(-1, 0), 1);
        answers("words(0, 0)", () -> proofs.words(0, 0), 1);
        answers("size(0, 3, 210, 297)", () -> proofs.size(0, 3, 210, 297), 1);
        answers("missing(0)", () -> proofs.missing(0), 7);
        answers("rule(0, 0, false)", () -> proofs.rule(0, 0, false), 0);
        answers("rule(5, 0, true)", () -> proofs.rule(5, 0, true), 1);
        answers("check()", () -> proofs.check(), 2);
        answers("fault(0, 2)", () -> proofs.fault(0, 2), 1);
        answers("fault(1, 1)", () -> proofs.fault(1, 1), -1);
        answers("approve(3, 1, 42)", () -> proofs.approve(3, 1, 42), 1);
        answers("approved(3)", () -> proofs.approved(3) ? 1 : 0, 0);
        due.same("the README's example", linesOfTheExample().toString(), made.toString());
        due.end();
    }

    private static void answers(String text, Due.Call call, long want) {
        made.add("proofs." + text + ";");
        due.is(text, call, want);
    }

    /** The example's lines without what they tell of the answers. */
    private static List<String> linesOfTheExample() throws IOException {
        String example = Files.readString(Path.of("README.md")).split("```java\\R", 2)[1].split("```", 2)[0];
        return example.lines().map(line -> line.split("//", 2)[0].strip()).filter(line -> !line.isEmpty()).toList();
    }
}
