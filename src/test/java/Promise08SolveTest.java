import java.util.function.Supplier;

public final class Promise08SolveTest {
    private static final Due due = new Due("promise 8");

    public static void main(String[] args) {
        nothingToKeep();
        newestOfNeeded();
        neededEvenIfItIsNotForced();
        othersHaveNoneIfTheyCan();
        othersHaveNewestIfTheyMust();
        firstPackageDecides();
        backtracking();
        cycles();
        noneIsRight();
        stateIsThatOfNow();
        oneIfAllHaveNone();
        oneOfAllChoices();
        zeroThenNoneIsChosen();
        solvingChangesNoQuestion();
        due.end();
    }

    private static void nothingToKeep() {
        due.is("no packages", new ConflictSolve().solve(), 1);
        due.solves("no demands", Due.withPacks(6, 0, 3), -1, -1, -1);
    }

    private static void newestOfNeeded() {
        ConflictSolve x = Due.withPacks(6, 6, 6);
        x.demand(0, 1, 63);
        due.solves("newest", x, -1, 5, -1);
        x.demand(0, 1, 15);
        due.solves("newest of two sets", x, -1, 3, -1);
        x.demand(1, 1, 12);
        due.solves("newest without conflict", x, -1, 1, -1);
    }

    private static void neededEvenIfItIsNotForced() {
        ConflictSolve x = Due.withPacks(3, 3, 3);
        x.demand(0, 0, 1);
        x.or(1, 1);
        due.solves("one alternative would do", x, 2, 0, -1);
        x.row(0, 2, 1, 1, 7);
        due.solves("the newest of the first leaves no other", x, 1, 0, -1);
        x.row(0, 1, 1, 1, 7);
        due.solves("nor does the next", x, 0, 2, -1);
    }

    private static void othersHaveNoneIfTheyCan() {
        ConflictSolve x = Due.withPacks(2, 3, 3);
        x.demand(0, 0, 3);
        x.row(0, 1, 2, 1, 6);
        x.row(0, 1, 1, 2, 4);
        due.solves("peer and conflict", x, 1, -1, -1);
    }

    private static void othersHaveNewestIfTheyMust() {
        ConflictSolve x = Due.withPacks(2, 5, 5);
        x.demand(0, 0, 3);
        x.row(0, 1, 0, 2, 30);
        x.row(2, 4, 0, 1, 7);
        due.solves("needed by rows", x, 1, -1, 3);
        x.row(0, 1, 1, 2, 14);
        due.solves("needed by rows of rows", x, 1, 2, 4);
    }

    private static void firstPackageDecides() {
        ConflictSolve x = Due.withPacks(3, 6, 6, 6);
        x.demand(0, 0, 7);
        for (int pack = 1; pack < 4; pack++) {
            x.demand(0, pack, 63);
            x.row(0, 2, 1, pack, 62);
        }
        due.solves("newest of the first, all else oldest", x, 2, 0, 0, 0);

        ConflictSolve y = Due.withPacks(3, 3, 3);
        y.row(0, 1, 0, 1, 3);
        y.or(2, 3);
        y.demand(0, 0, 2);
        due.solves("others by number: the first has NONE", y, 1, -1, 1);
        y.row(2, 1, 0, 1, 1);
        due.solves("NONE of the first, then newest that can be", y, 1, -1, 0);
        y.row(2, 0, 0, 1, 1);
        due.solves("newest of the first then", y, 1, 1, -1);
    }

    private static void backtracking() {
        ConflictSolve x = Due.withPacks(3, 3, 3, 3);
        for (int pack = 0; pack < 4; pack++) {
            x.demand(0, pack, 7);
        }
        for (int pack = 0; pack < 3; pack++) {
            for (int version = 0; version < 3; version++) {
                x.row(pack, version, 1, pack + 1, 1 << version);
            }
        }
        due.solves("neighbours differ", x, 2, 1, 2, 1);
        for (int version = 0; version < 3; version++) {
            x.row(3, version, 1, 0, 7 & ~(1 << (2 - version)));
        }
        due.solves("and the last is tied to the first", x, 2, 1, 2, 0);
        x.row(2, 2, 1, 3, 1);
        due.solves("two steps back", x, 2, 0, 1, 0);
        x.row(1, 0, 1, 3, 1);
        due.solves("three steps back", x, 1, 2, 0, 1);
    }

    private static void cycles() {
        ConflictSolve x = Due.withPacks(2, 2, 2);
        x.demand(0, 0, 3);
        x.row(0, 1, 0, 1, 2);
        x.row(1, 1, 0, 2, 2);
        x.row(2, 1, 0, 0, 2);
        due.solves("a cycle of needs", x, 1, 1, 1);
        x.row(2, 1, 0, 0, 1);
        due.solves("a cycle that breaks", x, 0, -1, -1);
    }

    private static void noneIsRight() {
        ConflictSolve x = Due.withPacks(2);
        x.demand(0, 0, 1);
        due.solves("right", x, 0);
        x.demand(1, 0, 3);
        due.is("none is right", x.solve(), 0);
        due.chosen("none is chosen", x, -1);
        due.is("none is right again", x.solve(), 0);
    }

    private static void stateIsThatOfNow() {
        ConflictSolve x = Due.withPacks(2, 2);
        x.demand(0, 0, 3);
        due.solves("first", x, 1, -1);
        due.solves("the same again", x, 1, -1);
        x.row(0, 1, 0, 1, 1);
        due.solves("a new row", x, 1, 0);
        x.demand(1, 1, 1);
        due.solves("a new demand", x, 0, -1);
        x.leaveOut(1, true);
        due.solves("left out", x, 1, 0);
    }

    /** "Whether a CHOICE is RIGHT": without packages, or with packages that have no versions. */
    private static void oneIfAllHaveNone() {
        ConflictSolve x = new ConflictSolve();
        due.is("no packages", x.solve(), 1);
        for (int pack = 0; pack < 8; pack++) {
            x.pack(0);
            due.is((pack + 1) + " packages without versions", x.solve(), 1);
        }
        due.chosen("eight packages without versions", x, -1, -1, -1, -1, -1, -1, -1, -1);
        x.demand(1, 3, 63);
        x.demand(2, 3, 63);
        due.is("conflict and peer are kept by NONE", x.solve(), 1);
        x.demand(0, 3, 63);
        due.is("a need isn't", x.solve(), 0);
    }

    /** "1, and the first one is chosen": also where just one of all choices is right. */
    private static void oneOfAllChoices() {
        for (int version = 0; version < 6; version++) {
            ConflictSolve x = Due.withPacks(6, 6, 6, 6, 6, 6, 6, 6);
            int[] want = new int[8];
            for (int pack = 0; pack < 8; pack++) {
                want[pack] = (version + pack) % 6;
                x.demand(0, pack, 1 << want[pack]);
            }
            due.solves("just one choice is right", x, want);
            x.row(0, version, 1, 7, 1 << want[7]);
            due.is("none is right any more", x.solve(), 0);
        }
    }

    /** "Or 0 (then none is)": of each package that had a version before. */
    private static void zeroThenNoneIsChosen() {
        ConflictSolve x = Due.withPacks(6, 6, 6, 6, 6, 6, 6, 6);
        for (int pack = 0; pack < 8; pack++) {
            x.demand(0, pack, 63);
        }
        due.solves("1", x, 5, 5, 5, 5, 5, 5, 5, 5);
        x.demand(0, 7, 0);
        due.is("0", x.solve(), 0);
        due.chosen("none is chosen", x, -1, -1, -1, -1, -1, -1, -1, -1);
        x.leaveOut(8, true);
        due.solves("1 again", x, 5, 5, 5, 5, 5, 5, 5, 5);
    }

    /** All answers but chosen() are the same, whether solve() was called or not. */
    private static void solvingChangesNoQuestion() {
        for (Supplier<ConflictSolve> scene : Scenes.small()) {
            ConflictSolve once = scene.get();
            ConflictSolve often = scene.get();
            once.solve();
            for (int i = 0; i < 20; i++) {
                often.solve();
            }
            due.same("solve() twenty times", often, once);
        }
    }
}
