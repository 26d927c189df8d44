public final class Promise01NewObjectTest {
    private static final Due due = new Due("promise 1");

    public static void main(String[] args) {
        constantIsAsTold();
        nothingIsThere();
        objectsAreApart();
        due.end();
    }

    private static void constantIsAsTold() {
        due.is("NONE", ConflictSolve.NONE, -1);
    }

    private static void nothingIsThere() {
        ConflictSolve x = new ConflictSolve();
        for (int pack = -1; pack < 9; pack++) {
            due.is("chosen(" + pack + ")", x.chosen(pack), -1);
            due.is("must(" + pack + ")", x.must(pack), false);
            due.is("can(" + pack + ", NONE)", x.can(pack, -1), false);
            due.is("can(" + pack + ", 0)", x.can(pack, 0), false);
            due.is("lock(" + pack + ", NONE)", x.lock(pack, -1), false);
            due.is("row(" + pack + ", ..)", x.row(pack, 0, 0, 0, 1), false);
            due.is("demand(0, " + pack + ", 1)", x.demand(0, pack, 1), -1);
            due.is("or(" + pack + ", 1)", x.or(pack, 1), false);
        }
        due.is("leaveOut(0, true)", x.leaveOut(0, true), false);
        due.blamed("before any blame()", x);
        due.is("solve() of nothing", x.solve(), 1);
        due.blames("nothing", x);
        due.is("the first pack", x.pack(1), 0);
        due.is("the first demand", x.demand(2, 0, 1), 0);
        due.solves("no lock, no row", x, -1);
    }

    private static void objectsAreApart() {
        ConflictSolve x = Due.withPacks(2, 2);
        x.demand(0, 0, 3);
        x.lock(0, 0);
        x.solve();
        ConflictSolve y = new ConflictSolve();
        due.is("pack of another object", y.pack(3), 0);
        due.is("chosen of another object", y.chosen(0), -1);
        due.is("demand of another object", y.demand(0, 0, 7), 0);
        due.solves("another object", y, 2);
        due.chosen("the one object", x, 0, -1);
    }
}
