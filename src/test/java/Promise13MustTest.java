import java.util.function.Supplier;

public final class Promise13MustTest {
    private static final Due due = new Due("promise 13");

    public static void main(String[] args) {
        noSuchPackage();
        allRightChoicesGiveOne();
        noRightChoice();
        falseIfThereIsNoSuchPackage();
        trueIfThereIsNoRightChoice();
        askingChangesNothing();
        due.end();
    }

    private static void noSuchPackage() {
        ConflictSolve x = Due.withPacks(2);
        x.demand(0, 0, 3);
        int[] noPacks = {-1, 1, 7, 8, 9, Integer.MIN_VALUE, Integer.MAX_VALUE};
        for (int pack : noPacks) {
            due.is("must(" + pack + ")", x.must(pack), false);
        }
        x.demand(0, 0, 0);
        for (int pack : noPacks) {
            due.is("no right choice: must(" + pack + ")", x.must(pack), false);
        }
    }

    private static void allRightChoicesGiveOne() {
        ConflictSolve x = Due.withPacks(2, 2, 2, 0);
        due.is("no demands", x.must(0), false);
        x.demand(0, 0, 3);
        due.is("a need", x.must(0), true);
        due.is("another", x.must(1), false);
        x.row(0, 0, 0, 1, 1);
        due.is("needed by one version", x.must(1), false);
        x.row(0, 1, 0, 1, 2);
        due.is("needed by each, not the same version", x.must(1), true);
        x.demand(0, 1, 3);
        x.or(2, 3);
        due.is("an alternative that isn't used", x.must(2), false);
        x.demand(2, 2, 1);
        due.is("a peer", x.must(2), false);
        x.lock(2, 0);
        due.solves("a lock", x, 1, 1, 0, -1);
        due.is("chosen, but not by all", x.must(2), false);
        due.is("a package without versions", x.must(3), false);
        x.leaveOut(0, true);
        due.is("left out", x.must(0), false);
    }

    private static void noRightChoice() {
        ConflictSolve x = Due.withPacks(2, 0);
        x.demand(0, 1, 63);
        due.is("no right choice: must(0)", x.must(0), true);
        due.is("no right choice: must(1)", x.must(1), true);
        x.leaveOut(0, true);
        due.is("must(0)", x.must(0), false);
        due.is("must(1)", x.must(1), false);
    }

    /** "False if there is no such package": also if no choice is right. */
    private static void falseIfThereIsNoSuchPackage() {
        for (int needed = 0; needed < 2; needed++) {
            int set = needed * 63;
            Supplier<ConflictSolve> four = () -> {
                ConflictSolve x = Due.withPacks(6, 6, 6, 6);
                for (int pack = 0; pack < 4; pack++) {
                    x.demand(0, pack, set);
                }
                return x;
            };
            for (int pack : Due.outside(0, 3)) {
                String call = "demands of " + set + ": must(" + pack + ")";
                due.refuses(call, four, x -> x.must(pack) ? 1 : 0, 0);
            }
            due.is("must(0)", four.get().must(0), true);
            due.is("must(3)", four.get().must(3), true);
        }
    }

    /** "Also if there are none": of all eight packages, with versions or without. */
    private static void trueIfThereIsNoRightChoice() {
        ConflictSolve x = Due.withPacks(0, 1, 2, 3, 4, 5, 6, 0);
        x.demand(0, 3, 0);
        for (int pack = 0; pack < 8; pack++) {
            due.is("no right choice: must(" + pack + ")", x.must(pack), true);
        }
        due.is("no right choice: must(8)", x.must(8), false);
        due.is("no right choice: must(-1)", x.must(-1), false);
        x.leaveOut(0, true);
        for (int pack = 0; pack < 8; pack++) {
            due.is("all have NONE: must(" + pack + ")", x.must(pack), false);
        }
    }

    /** What was chosen and blamed, and what is asked next, is as if nothing had been asked. */
    private static void askingChangesNothing() {
        for (Supplier<ConflictSolve> scene : Scenes.small()) {
            ConflictSolve asked = scene.get();
            for (int pack = -2; pack < 10; pack++) {
                asked.must(pack);
            }
            due.same("must() was asked", asked, scene.get());
        }
    }
}
