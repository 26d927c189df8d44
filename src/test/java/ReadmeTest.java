import java.io.IOException;
import java.nio.file.Files;
import java.nio.file.Path;
import java.util.ArrayList;
import java.util.List;

/** The example of README.md answers what its comments tell. */
public final class ReadmeTest {
    private static final Due due = new Due("README.md");

    /** Each line of the example, in order: "line = answer" if it tells one, else the line alone. */
    private static final List<String> answered = new ArrayList<>();

    public static void main(String[] args) throws IOException {
        runTheExample();
        List<String> told = linesOf(Files.readString(Path.of("README.md")));
        due.is("lines of the example", told.size(), answered.size());
        for (int i = 0; i < Math.min(told.size(), answered.size()); i++) {
            boolean same = told.get(i).equals(answered.get(i));
            due.is("told: " + told.get(i) + ", is: " + answered.get(i) + ": alike", same, true);
        }
        due.end();
    }

    private static void runTheExample() {
        ConflictSolve x = new ConflictSolve();
        answered.add("ConflictSolve x = new ConflictSolve()");
        int app = x.pack(1);
        answered.add("int app = x.pack(1)");
        int lib = x.pack(3);
        answered.add("int lib = x.pack(3)");
        int log = x.pack(2);
        answered.add("int log = x.pack(2)");
        x.demand(0, app, 0b1);
        answered.add("x.demand(0, app, 0b1)");
        x.row(app, 0, 0, lib, 0b110);
        answered.add("x.row(app, 0, 0, lib, 0b110)");
        x.or(log, 0b10);
        answered.add("x.or(log, 0b10)");
        x.row(app, 0, 1, log, 0b01);
        answered.add("x.row(app, 0, 1, log, 0b01)");
        note("x.solve()", x.solve());
        note("x.chosen(app)", x.chosen(app));
        note("x.chosen(lib)", x.chosen(lib));
        note("x.chosen(log)", x.chosen(log));
        note("x.can(lib, 2)", x.can(lib, 2));
        note("x.must(lib)", x.must(lib));
        int d = x.demand(1, app, 0b1);
        note("int d = x.demand(1, app, 0b1)", d);
        note("x.solve()", x.solve());
        note("x.blame()", x.blame());
        note("x.blamed(0)", x.blamed(0));
        note("x.blamed(1)", x.blamed(1));
        note("x.leaveOut(d, true)", x.leaveOut(d, true));
        note("x.lock(lib, 0)", x.lock(lib, 0));
        note("x.solve()", x.solve());
        note("x.chosen(lib)", x.chosen(lib));
    }

    private static void note(String call, Object answer) {
        answered.add(call + " = " + answer);
    }

    /** The lines of the first example, with the answer that a line's comment begins with. */
    private static List<String> linesOf(String readme) {
        List<String> lines = new ArrayList<>();
        String[] parts = readme.split("```(java)?\n", 3);
        if (parts.length < 3) {
            return lines;
        }
        for (String line : parts[1].split("\n+")) {
            String[] halves = line.split(";\\s*(// )?", 2);
            String answer = halves.length < 2 ? "" : halves[1].split("[:, ]", 2)[0];
            lines.add(answer.matches("-?[0-9]+|true|false") ? halves[0] + " = " + answer : halves[0]);
        }
        return lines;
    }
}
