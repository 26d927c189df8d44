import java.util.function.Supplier;

public final class Promise09ChosenTest {
    private static final Due due = new Due("promise 9");

    public static void main(String[] args) {
        itIsThatOfTheLatestSolve();
        noSuchPackage();
        otherCallsLeaveIt();
        noneBeforeAnySolve();
        noneIfThereIsNoSuchPackage();
        noneIfTheLatestWasZero();
        noneIfThatWasGiven();
        theOldestAndTheNewest();
        eachOtherCallLeavesIt();
        due.end();
    }

    private static void itIsThatOfTheLatestSolve() {
        ConflictSolve x = Due.withPacks(6, 6, 6, 6, 6, 6, 6, 6);
        due.chosen("before solve()", x, -1, -1, -1, -1, -1, -1, -1, -1);
        for (int pack = 0; pack < 8; pack++) {
            x.demand(0, pack, 1 << ((pack + 5) % 6));
        }
        due.chosen("demands without solve()", x, -1, -1, -1, -1, -1, -1, -1, -1);
        due.solves("all eight", x, 5, 0, 1, 2, 3, 4, 5, 0);
        x.demand(1, 3, 4);
        due.chosen("until the next solve()", x, 5, 0, 1, 2, 3, 4, 5, 0);
        due.is("solve()", x.solve(), 0);
        due.chosen("behind a solve() of 0", x, -1, -1, -1, -1, -1, -1, -1, -1);
        x.leaveOut(3, true);
        due.chosen("still behind it", x, -1, -1, -1, -1, -1, -1, -1, -1);
        due.solves("again right", x, 5, 0, 1, 5, 3, 4, 5, 0);
    }

    private static void noSuchPackage() {
        ConflictSolve x = Due.withPacks(3, 3);
        x.demand(0, 0, 7);
        x.demand(0, 1, 7);
        x.solve();
        int[] noPacks = {-1, -8, 2, 3, 7, 8, 9, 16, Integer.MIN_VALUE, Integer.MAX_VALUE};
        for (int pack : noPacks) {
            due.is("chosen(" + pack + ")", x.chosen(pack), -1);
        }
        x.pack(6);
        due.chosen("a package that came later", x, 2, 2, -1);
    }

    private static void otherCallsLeaveIt() {
        ConflictSolve x = Due.withPacks(3, 3);
        x.demand(0, 0, 7);
        x.solve();
        x.can(0, 0);
        x.can(0, -1);
        x.can(1, 2);
        x.must(0);
        x.must(1);
        x.blame();
        x.lock(0, 0);
        x.row(0, 2, 1, 0, 4);
        due.chosen("asked in between", x, 2, -1);
        x.demand(0, 1, 0);
        x.blame();
        x.must(1);
        x.can(1, 0);
        due.chosen("asked while none is right", x, 2, -1);
    }

    /** "What the latest solve() that was 1 gave": there may have been no solve() yet. */
    private static void noneBeforeAnySolve() {
        ConflictSolve x = Due.withPacks(6, 6, 6, 6, 6, 6, 6, 6);
        for (int pack = 0; pack < 8; pack++) {
            x.demand(0, pack, 63);
            x.lock(pack, 3);
        }
        x.blame();
        x.can(0, 3);
        x.must(0);
        due.chosen("no solve() yet", x, -1, -1, -1, -1, -1, -1, -1, -1);
    }

    /** "NONE if .. there is no such package": below 0, behind the last, where a shift would wrap. */
    private static void noneIfThereIsNoSuchPackage() {
        Supplier<ConflictSolve> four = () -> {
            ConflictSolve x = Due.withPacks(6, 6, 6, 6);
            for (int pack = 0; pack < 4; pack++) {
                x.demand(0, pack, 63);
            }
            x.solve();
            return x;
        };
        for (int pack : Due.outside(0, 3)) {
            due.refuses("of four: chosen(" + pack + ")", four, x -> x.chosen(pack), -1);
        }
        for (int pack : Due.outside(0, 7)) {
            due.refuses("of eight: chosen(" + pack + ")", Scenes::fullByARow, x -> x.chosen(pack), -1);
        }
        due.chosen("the four", four.get(), 5, 5, 5, 5, -1);
    }

    /** "Or the latest one was 0": even if one before it, or a later question, says otherwise. */
    private static void noneIfTheLatestWasZero() {
        ConflictSolve x = Due.withPacks(3);
        x.demand(0, 0, 7);
        due.solves("1", x, 2);
        x.demand(0, 0, 0);
        due.is("0", x.solve(), 0);
        due.chosen("the latest was 0", x, -1);
        x.leaveOut(1, true);
        due.is("can(0, 2)", x.can(0, 2), true);
        due.blames("a choice is right", x);
        due.chosen("the latest solve() was 0 still", x, -1);
        due.solves("1 again", x, 2);
    }

    /** "NONE if that": given by solve(), to needed packages and to others. */
    private static void noneIfThatWasGiven() {
        ConflictSolve x = Due.withPacks(2, 2, 0);
        x.demand(0, 0, 3);
        x.leaveOut(0, true);
        x.demand(1, 0, 3);
        due.solves("needed, but NONE alone can be", x, -1, -1, -1);
    }

    /** Each version of each package is told apart. */
    private static void theOldestAndTheNewest() {
        for (int version = 0; version < 6; version++) {
            for (int pack = 0; pack < 8; pack++) {
                ConflictSolve x = Due.withPacks(6, 6, 6, 6, 6, 6, 6, 6);
                x.lock(pack, version);
                int[] want = {-1, -1, -1, -1, -1, -1, -1, -1};
                want[pack] = version;
                due.solves("version " + version + " of package " + pack, x, want);
            }
        }
    }

    /** "The latest solve()": no other call, taken or refused, changes what it gave. */
    private static void eachOtherCallLeavesIt() {
        ConflictSolve x = Due.withPacks(3, 3);
        x.demand(0, 0, 7);
        due.solves("1", x, 2, -1);
        x.pack(2);
        due.chosen("behind pack()", x, 2, -1, -1);
        x.row(0, 2, 0, 1, 0);
        due.chosen("behind row()", x, 2, -1, -1);
        x.or(1, 2);
        due.chosen("behind or() of a row", x, 2, -1, -1);
        x.demand(0, 2, 0);
        due.chosen("behind demand()", x, 2, -1, -1);
        x.or(2, 1);
        due.chosen("behind or() of a demand", x, 2, -1, -1);
        x.leaveOut(0, true);
        due.chosen("behind leaveOut()", x, 2, -1, -1);
        x.lock(0, 1);
        due.chosen("behind lock()", x, 2, -1, -1);
        x.blame();
        due.chosen("behind blame()", x, 2, -1, -1);
        x.blamed(0);
        x.can(1, 1);
        due.chosen("behind can()", x, 2, -1, -1);
        x.must(1);
        due.chosen("behind must()", x, 2, -1, -1);
        x.chosen(0);
        x.pack(7);
        x.row(3, 0, 0, 0, 0);
        x.demand(3, 0, 0);
        x.or(3, 1);
        x.leaveOut(2, true);
        x.lock(3, 0);
        due.chosen("behind refused calls", x, 2, -1, -1);
        due.solves("1 again", x, 1, -1, 0);
    }
}
