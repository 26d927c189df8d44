public final class Promise09ChosenTest {
    private static final Due due = new Due("promise 9");

    public static void main(String[] args) {
        itIsThatOfTheLatestSolve();
        noSuchPackage();
        otherCallsLeaveIt();
        due.end();
    }

    private static void itIsThatOfTheLatestSolve() {
        ConflictSolve x = Due.withPacks(6, 6, 6, 6, 6, 6, 6, 6);
        due.chosen("before solve()", x, -1, -1, -1, -1, -1, -1, -1, -1);
        for (int pack = 0; pack < 8; pack++) {
            x.demand(0, pack, 1 << ((pack + 5) % 6));
        }
        due.chosen("demands without solve()", x, -1, -1, -1, -1, -1, -1, -1, -1);
        due.solves("all eight", x, 5, 0, 1, 2, 3, 4, 5, 0);
        x.demand(1, 3, 4);
        due.chosen("until the next solve()", x, 5, 0, 1, 2, 3, 4, 5, 0);
        due.is("solve()", x.solve(), 0);
        due.chosen("behind a solve() of 0", x, -1, -1, -1, -1, -1, -1, -1, -1);
        x.leaveOut(3, true);
        due.chosen("still behind it", x, -1, -1, -1, -1, -1, -1, -1, -1);
        due.solves("again right", x, 5, 0, 1, 5, 3, 4, 5, 0);
    }

    private static void noSuchPackage() {
        ConflictSolve x = Due.withPacks(3, 3);
        x.demand(0, 0, 7);
        x.demand(0, 1, 7);
        x.solve();
        int[] noPacks = {-1, -8, 2, 3, 7, 8, 9, 16, Integer.MIN_VALUE, Integer.MAX_VALUE};
        for (int pack : noPacks) {
            due.is("chosen(" + pack + ")", x.chosen(pack), -1);
        }
        x.pack(6);
        due.chosen("a package that came later", x, 2, 2, -1);
    }

    private static void otherCallsLeaveIt() {
        ConflictSolve x = Due.withPacks(3, 3);
        x.demand(0, 0, 7);
        x.solve();
        x.can(0, 0);
        x.can(0, -1);
        x.can(1, 2);
        x.must(0);
        x.must(1);
        x.blame();
        x.lock(0, 0);
        x.row(0, 2, 1, 0, 4);
        due.chosen("asked in between", x, 2, -1);
        x.demand(0, 1, 0);
        x.blame();
        x.must(1);
        x.can(1, 0);
        due.chosen("asked while none is right", x, 2, -1);
    }
}
