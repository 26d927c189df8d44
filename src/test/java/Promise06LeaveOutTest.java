public final class Promise06LeaveOutTest {
    private static final Due due = new Due("promise 6");

    public static void main(String[] args) {
        itAnswersWhetherItChanged();
        noSuchDemand();
        leftOutDemandsDoNotCount();
        leftOutDemandsStillGiveTheOrder();
        falseIfThereIsNoneSuch();
        falseIfItIsSo();
        theTwelfth();
        allOfThem();
        toldAnswersStay();
        due.end();
    }

    private static void itAnswersWhetherItChanged() {
        ConflictSolve x = Due.withPacks(1);
        for (int i = 0; i < 12; i++) {
            x.demand(2, 0, 1);
        }
        for (int i = 0; i < 12; i++) {
            due.is(i + " isn't out at first", x.leaveOut(i, false), false);
            due.is(i + " out", x.leaveOut(i, true), true);
            due.is(i + " out again", x.leaveOut(i, true), false);
        }
        for (int i = 0; i < 12; i++) {
            due.is(i + " in", x.leaveOut(i, false), true);
            due.is(i + " in again", x.leaveOut(i, false), false);
            due.is(i + " out once more", x.leaveOut(i, true), true);
        }
    }

    private static void noSuchDemand() {
        ConflictSolve x = Due.withPacks(1);
        x.demand(0, 0, 1);
        int[] none = {-1, 1, 11, 12, 32, 33, Integer.MIN_VALUE, Integer.MAX_VALUE};
        for (int demand : none) {
            due.is("leaveOut(" + demand + ", true)", x.leaveOut(demand, true), false);
            due.is("leaveOut(" + demand + ", false)", x.leaveOut(demand, false), false);
        }
        due.is("demand 0 still counts", x.must(0), true);
        x.demand(0, 0, 0);
        due.is("a demand isn't out before it came", x.solve(), 0);
    }

    private static void leftOutDemandsDoNotCount() {
        ConflictSolve x = Due.withPacks(3, 3);
        x.demand(0, 0, 3);
        x.demand(0, 0, 1);
        x.demand(1, 0, 1);
        due.is("all count", x.solve(), 0);
        x.leaveOut(1, true);
        due.solves("1 is out", x, 1, -1);
        due.is("can", x.can(0, 0), false);
        due.is("must", x.must(0), true);
        x.leaveOut(1, false);
        due.is("1 is in again", x.solve(), 0);
        x.leaveOut(2, true);
        due.solves("2 is out", x, 0, -1);
        x.leaveOut(0, true);
        x.leaveOut(1, true);
        due.solves("all are out", x, 2, -1);
        due.is("must if all are out", x.must(0), false);
        due.is("chosen stays", x.leaveOut(0, false), true);
        due.chosen("chosen stays", x, 2, -1);
    }

    private static void leftOutDemandsStillGiveTheOrder() {
        ConflictSolve x = Due.withPacks(2, 2);
        x.row(0, 1, 1, 1, 2);
        x.demand(0, 1, 3);
        x.demand(0, 0, 3);
        due.solves("none is out", x, 0, 1);
        x.leaveOut(0, true);
        due.solves("0 is out", x, 0, 1);
        x.leaveOut(1, true);
        due.solves("both are out", x, 0, 1);
    }

    /** "False if there is none such": below 0, behind the last, and where a shift would wrap. */
    private static void falseIfThereIsNoneSuch() {
        for (int demand : Due.outside(0, 3)) {
            String call = "leaveOut(" + demand + ", ";
            due.refuses(call + "true)", Scenes::behindARow, x -> answer(x, demand, true), 0);
            due.refuses(call + "false)", Scenes::behindARow, x -> answer(x, demand, false), 0);
        }
        for (int demand : Due.outside(0, 11)) {
            String call = "of twelve: leaveOut(" + demand + ", ";
            due.refuses(call + "true)", Scenes::fullByARow, x -> answer(x, demand, true), 0);
            due.refuses(call + "false)", Scenes::fullByARow, x -> answer(x, demand, false), 0);
        }
    }

    /** "False if .. it is so": and it stays so. */
    private static void falseIfItIsSo() {
        for (int i = 0; i < 12; i++) {
            int demand = i;
            boolean out = demand == 11;
            String call = "leaveOut(" + demand + ", " + out + ")";
            due.refuses(call, Scenes::fullByADemand, x -> answer(x, demand, out), 0);
        }
    }

    /** The last demand of all can be left out, and comes back. */
    private static void theTwelfth() {
        ConflictSolve x = Due.withPacks(1);
        for (int i = 0; i < 11; i++) {
            x.demand(2, 0, 1);
        }
        due.is("leaveOut(11, true) before it is there", x.leaveOut(11, true), false);
        x.demand(0, 0, 0);
        due.is("the twelfth counts", x.solve(), 0);
        due.is("leaveOut(11, true)", x.leaveOut(11, true), true);
        due.solves("the twelfth is out", x, 0);
        due.is("leaveOut(11, false)", x.leaveOut(11, false), true);
        due.is("the twelfth counts again", x.solve(), 0);
    }

    /** With every demand left out each choice that keeps the rows is right. */
    private static void allOfThem() {
        ConflictSolve x = Due.withPacks(2);
        x.row(0, 1, 1, 0, 2);
        for (int i = 0; i < 12; i++) {
            x.demand(0, 0, 0);
        }
        for (int i = 0; i < 12; i++) {
            due.is("some still count", x.solve(), 0);
            due.is("leaveOut(" + i + ", true)", x.leaveOut(i, true), true);
        }
        due.solves("none counts", x, 0);
        due.blames("none counts", x);
        due.is("rows still count", x.can(0, 1), false);
        due.is("NONE", x.can(0, -1), true);
        due.is("must(0)", x.must(0), false);
    }

    /** What solve() and blame() found is told until they are called again. */
    private static void toldAnswersStay() {
        ConflictSolve x = Due.withPacks(2, 2);
        x.demand(0, 0, 2);
        x.solve();
        x.demand(0, 1, 0);
        due.blames("demand 1", x, 1);
        x.leaveOut(1, true);
        x.leaveOut(0, true);
        due.chosen("as solve() found it", x, 1, -1);
        due.blamed("as blame() found it", x, 1);
    }

    private static int answer(ConflictSolve x, int demand, boolean out) {
        return x.leaveOut(demand, out) ? 1 : 0;
    }
}
