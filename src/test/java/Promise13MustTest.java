public final class Promise13MustTest {
    private static final Due due = new Due("promise 13");

    public static void main(String[] args) {
        noSuchPackage();
        allRightChoicesGiveOne();
        noRightChoice();
        due.end();
    }

    private static void noSuchPackage() {
        ConflictSolve x = Due.withPacks(2);
        x.demand(0, 0, 3);
        int[] noPacks = {-1, 1, 7, 8, 9, Integer.MIN_VALUE, Integer.MAX_VALUE};
        for (int pack : noPacks) {
            due.is("must(" + pack + ")", x.must(pack), false);
        }
        x.demand(0, 0, 0);
        for (int pack : noPacks) {
            due.is("no right choice: must(" + pack + ")", x.must(pack), false);
        }
    }

    private static void allRightChoicesGiveOne() {
        ConflictSolve x = Due.withPacks(2, 2, 2, 0);
        due.is("no demands", x.must(0), false);
        x.demand(0, 0, 3);
        due.is("a need", x.must(0), true);
        due.is("another", x.must(1), false);
        x.row(0, 0, 0, 1, 1);
        due.is("needed by one version", x.must(1), false);
        x.row(0, 1, 0, 1, 2);
        due.is("needed by each, not the same version", x.must(1), true);
        x.demand(0, 1, 3);
        x.or(2, 3);
        due.is("an alternative that isn't used", x.must(2), false);
        x.demand(2, 2, 1);
        due.is("a peer", x.must(2), false);
        x.lock(2, 0);
        due.solves("a lock", x, 1, 1, 0, -1);
        due.is("chosen, but not by all", x.must(2), false);
        due.is("a package without versions", x.must(3), false);
        x.leaveOut(0, true);
        due.is("left out", x.must(0), false);
    }

    private static void noRightChoice() {
        ConflictSolve x = Due.withPacks(2, 0);
        x.demand(0, 1, 63);
        due.is("no right choice: must(0)", x.must(0), true);
        due.is("no right choice: must(1)", x.must(1), true);
        x.leaveOut(0, true);
        due.is("must(0)", x.must(0), false);
        due.is("must(1)", x.must(1), false);
    }
}
