public final class Promise11BlamedTest {
    private static final Due due = new Due("promise 11");

    public static void main(String[] args) {
        itIsThatOfTheLatestBlame();
        noSuchIndex();
        due.end();
    }

    private static void itIsThatOfTheLatestBlame() {
        ConflictSolve x = Due.withPacks(2, 2);
        due.blamed("before any blame()", x);
        x.demand(2, 1, 1);
        x.demand(0, 0, 1);
        x.demand(2, 1, 1);
        x.demand(0, 0, 2);
        x.solve();
        due.blamed("solve() finds none to blame", x);
        due.blames("1 and 3", x, 1, 3);
        x.leaveOut(3, true);
        due.blamed("until the next blame()", x, 1, 3);
        x.solve();
        x.can(0, 0);
        x.must(0);
        x.demand(0, 0, 0);
        due.blamed("still until the next blame()", x, 1, 3);
        due.blames("the new one", x, 4);
        x.leaveOut(4, true);
        due.blames("none", x);
        x.leaveOut(3, false);
        due.blamed("none until the next blame()", x);
        due.blames("1 and 3 again", x, 1, 3);
    }

    private static void noSuchIndex() {
        ConflictSolve x = Due.withPacks(2);
        x.demand(0, 0, 0);
        due.blames("demand 0", x, 0);
        int[] none = {-1, 1, 2, 11, 12, 32, Integer.MIN_VALUE, Integer.MAX_VALUE};
        for (int i : none) {
            due.is("blamed(" + i + ")", x.blamed(i), -1);
        }
    }
}
