public final class Promise06LeaveOutTest {
    private static final Due due = new Due("promise 6");

    public static void main(String[] args) {
        itAnswersWhetherItChanged();
        noSuchDemand();
        leftOutDemandsDoNotCount();
        leftOutDemandsStillGiveTheOrder();
        due.end();
    }

    private static void itAnswersWhetherItChanged() {
        ConflictSolve x = Due.withPacks(1);
        for (int i = 0; i < 12; i++) {
            x.demand(2, 0, 1);
        }
        for (int i = 0; i < 12; i++) {
            due.is(i + " isn't out at first", x.leaveOut(i, false), false);
            due.is(i + " out", x.leaveOut(i, true), true);
            due.is(i + " out again", x.leaveOut(i, true), false);
        }
        for (int i = 0; i < 12; i++) {
            due.is(i + " in", x.leaveOut(i, false), true);
            due.is(i + " in again", x.leaveOut(i, false), false);
            due.is(i + " out once more", x.leaveOut(i, true), true);
        }
    }

    private static void noSuchDemand() {
        ConflictSolve x = Due.withPacks(1);
        x.demand(0, 0, 1);
        int[] none = {-1, 1, 11, 12, 32, 33, Integer.MIN_VALUE, Integer.MAX_VALUE};
        for (int demand : none) {
            due.is("leaveOut(" + demand + ", true)", x.leaveOut(demand, true), false);
            due.is("leaveOut(" + demand + ", false)", x.leaveOut(demand, false), false);
        }
        due.is("demand 0 still counts", x.must(0), true);
        x.demand(0, 0, 0);
        due.is("a demand isn't out before it came", x.solve(), 0);
    }

    private static void leftOutDemandsDoNotCount() {
        ConflictSolve x = Due.withPacks(3, 3);
        x.demand(0, 0, 3);
        x.demand(0, 0, 1);
        x.demand(1, 0, 1);
        due.is("all count", x.solve(), 0);
        x.leaveOut(1, true);
        due.solves("1 is out", x, 1, -1);
        due.is("can", x.can(0, 0), false);
        due.is("must", x.must(0), true);
        x.leaveOut(1, false);
        due.is("1 is in again", x.solve(), 0);
        x.leaveOut(2, true);
        due.solves("2 is out", x, 0, -1);
        x.leaveOut(0, true);
        x.leaveOut(1, true);
        due.solves("all are out", x, 2, -1);
        due.is("must if all are out", x.must(0), false);
        due.is("chosen stays", x.leaveOut(0, false), true);
        due.chosen("chosen stays", x, 2, -1);
    }

    private static void leftOutDemandsStillGiveTheOrder() {
        ConflictSolve x = Due.withPacks(2, 2);
        x.row(0, 1, 1, 1, 2);
        x.demand(0, 1, 3);
        x.demand(0, 0, 3);
        due.solves("none is out", x, 0, 1);
        x.leaveOut(0, true);
        due.solves("0 is out", x, 0, 1);
        x.leaveOut(1, true);
        due.solves("both are out", x, 0, 1);
    }
}
