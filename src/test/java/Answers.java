import java.util.ArrayList;
import java.util.List;

/**
 * Every answer that an object can give, and all the room that is left in it, so that two objects
 * can be compared. An object is used up by this: it is changed, by some 300 of its 512 calls.
 */
final class Answers {
    private final ConflictSolve x;
    private final List<String> all = new ArrayList<>();

    private Answers(ConflictSolve x) {
        this.x = x;
    }

    static List<String> of(ConflictSolve x) {
        Answers answers = new Answers(x);
        answers.addTold();
        answers.addAsked();
        answers.addPossible();
        answers.addFreeAlternatives();
        answers.addAsked();
        answers.addLeftOut();
        answers.addAsked();
        answers.addRoom();
        return answers.all;
    }

    private void add(String call, int answer) {
        all.add(call + " = " + answer);
    }

    private void add(String call, boolean answer) {
        add(call, answer ? 1 : 0);
    }

    private void addTold() {
        for (int pack = 0; pack < 8; pack++) {
            add("chosen(" + pack + ")", x.chosen(pack));
        }
        for (int i = 0; i < 12; i++) {
            add("blamed(" + i + ")", x.blamed(i));
        }
    }

    private void addAsked() {
        add("solve()", x.solve());
        add("blame()", x.blame());
        addTold();
    }

    private void addPossible() {
        for (int pack = 0; pack < 8; pack++) {
            add("must(" + pack + ")", x.must(pack));
            for (int version = -1; version < 6; version++) {
                add("can(" + pack + ", " + version + ")", x.can(pack, version));
            }
        }
    }

    private void addFreeAlternatives() {
        for (int version = 0; version < 3; version++) {
            add("or(0, " + (1 << version) + ")", x.or(0, 1 << version));
        }
    }

    private void addLeftOut() {
        for (int demand = 0; demand < 12; demand++) {
            add("leaveOut(" + demand + ", false)", x.leaveOut(demand, false));
        }
    }

    private void addRoom() {
        add("demand(2, 0, 63)", x.demand(2, 0, 63));
        add("pack(1)", x.pack(1));
        int rows = 0;
        while (rows < 121 && x.row(0, 0, 2, 0, 63)) {
            rows++;
        }
        add("room for rows", rows);
    }
}
