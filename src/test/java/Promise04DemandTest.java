import java.util.function.Supplier;

public final class Promise04DemandTest {
    private static final Due due = new Due("promise 4");

    public static void main(String[] args) {
        wrongDemandsAreRefused();
        only12DemandsAreTaken();
        kindsHold();
        otherBitsMeanNothing();
        orderIsThatOfTheDemands();
        onlyNeedsMakeNeeded();
        noSuchKind();
        noSuchPackage();
        noMoreThan12();
        refusedDemandsTakeNoNumber();
        packagesThatComeLater();
        due.end();
    }

    private static void wrongDemandsAreRefused() {
        ConflictSolve x = Due.withPacks(2, 0);
        int[] wrong = {-1, 3, Integer.MIN_VALUE, Integer.MAX_VALUE};
        for (int kind : wrong) {
            due.is("demand(" + kind + ", 0, 0)", x.demand(kind, 0, 0), -1);
        }
        int[] noPacks = {-1, 2, 7, 8, Integer.MIN_VALUE, Integer.MAX_VALUE};
        for (int pack : noPacks) {
            for (int kind = 0; kind < 3; kind++) {
                due.is("demand on no pack " + pack, x.demand(kind, pack, 0), -1);
            }
        }
        due.solves("refused demands", x, -1, -1);
        due.is("demand 0", x.demand(2, 1, 0), 0);
        due.is("demand 1", x.demand(1, 0, 2), 1);
        due.is("demand 2", x.demand(0, 0, 3), 2);
        due.solves("three demands", x, 0, -1);
    }

    private static void only12DemandsAreTaken() {
        ConflictSolve x = Due.withPacks(6);
        for (int i = 0; i < 11; i++) {
            due.is("demand " + i, x.demand(2, 0, 63), i);
        }
        due.is("demand 11", x.demand(0, 0, 7), 11);
        due.is("a 13th demand", x.demand(0, 0, 0), -1);
        due.is("a 14th demand", x.demand(1, 0, 63), -1);
        due.solves("12 demands", x, 2);
        due.is("leaveOut(12, true)", x.leaveOut(12, true), false);
        due.is("or of demand 11", x.or(0, 8), true);
        due.solves("an alternative of demand 11", x, 3);
        x.leaveOut(11, true);
        due.is("one that is left out still counts for 12", x.demand(0, 0, 1), -1);
    }

    private static void kindsHold() {
        for (int set = 0; set < 64; set++) {
            for (int kind = 0; kind < 3; kind++) {
                ConflictSolve x = Due.withPacks(6);
                x.demand(kind, 0, set);
                for (int version = -1; version < 6; version++) {
                    boolean in = version >= 0 && (set >> version & 1) == 1;
                    boolean want = kind == 0 ? in : kind == 1 ? !in : in || version == -1;
                    String call = "demand(" + kind + ", 0, " + set + "): can(0, " + version + ")";
                    due.is(call, x.can(0, version), want);
                }
            }
        }
    }

    private static void otherBitsMeanNothing() {
        ConflictSolve x = Due.withPacks(3, 6);
        due.is("bits behind the sixth", x.demand(1, 0, 0xffffffc0), 0);
        due.is("versions that aren't there", x.demand(1, 0, 56), 1);
        x.demand(0, 0, -1);
        due.solves("conflicts with nothing", x, 2, -1);
        due.is("the next package", x.can(1, 0), true);
        x.demand(0, 0, 0xfffffff8);
        due.is("need of nothing", x.solve(), 0);
        due.blames("need of nothing", x, 3);
    }

    private static void orderIsThatOfTheDemands() {
        ConflictSolve x = Due.withPacks(2, 2, 2);
        x.row(0, 1, 1, 1, 2);
        x.row(2, 1, 1, 1, 2);
        x.row(0, 1, 1, 2, 2);
        x.demand(0, 2, 3);
        x.demand(0, 1, 3);
        x.demand(0, 0, 3);
        due.solves("order 2, 1, 0", x, 0, 0, 1);

        ConflictSolve y = Due.withPacks(2, 2, 2);
        y.row(0, 1, 1, 1, 2);
        y.row(2, 1, 1, 1, 2);
        y.row(0, 1, 1, 2, 2);
        y.demand(0, 1, 3);
        y.demand(0, 2, 3);
        y.demand(0, 1, 3);
        y.demand(0, 0, 3);
        due.solves("order 1, 2, 0", y, 0, 1, 0);
    }

    private static void onlyNeedsMakeNeeded() {
        ConflictSolve x = Due.withPacks(3, 3);
        x.demand(1, 0, 4);
        x.demand(2, 1, 3);
        due.solves("conflict and peer", x, -1, -1);

        ConflictSolve y = Due.withPacks(2, 2);
        y.row(0, 1, 1, 1, 2);
        y.demand(1, 1, 0);
        y.demand(2, 1, 3);
        y.demand(0, 0, 3);
        y.demand(0, 1, 3);
        due.solves("conflict and peer give no place in the order", y, 1, 0);

        ConflictSolve z = Due.withPacks(3, 3);
        z.demand(0, 0, 0);
        z.leaveOut(0, true);
        due.solves("need of an empty set, left out", z, 2, -1);
    }

    /** "NONE if there are none such": the kind. */
    private static void noSuchKind() {
        for (Supplier<ConflictSolve> scene : Scenes.small()) {
            for (int kind : Due.outside(0, 2)) {
                due.refuses("demand(" + kind + ", 0, 0)", scene, x -> x.demand(kind, 0, 0), -1);
            }
        }
    }

    /** "NONE if there are none such": the package, whatever the kind. */
    private static void noSuchPackage() {
        for (int pack : Due.outside(0, 3)) {
            for (int kind = 0; kind < 3; kind++) {
                int fine = kind;
                String call = "demand(" + kind + ", " + pack + ", 0)";
                due.refuses(call, Scenes::behindARow, x -> x.demand(fine, pack, 0), -1);
                due.refuses(call, Scenes::behindADemand, x -> x.demand(fine, pack, 0), -1);
            }
        }
    }

    /** "NONE if .. 12": the twelfth is taken, the 13th of any kind isn't. */
    private static void noMoreThan12() {
        for (int kind = 0; kind < 3; kind++) {
            int fine = kind;
            ConflictSolve x = Due.withPacks(1);
            for (int i = 0; i < 12; i++) {
                due.is("demand " + i + " of kind " + kind, x.demand(kind, 0, 1), i);
            }
            due.is("demand 12 of kind " + kind, x.demand(kind, 0, 1), -1);
            String call = "the 13th demand(" + kind + ", 5, 0)";
            due.refuses(call, Scenes::fullByARow, y -> y.demand(fine, 5, 0), -1);
            due.refuses(call, Scenes::fullByADemand, y -> y.demand(fine, 5, 0), -1);
        }
        ConflictSolve alternatives = Due.withPacks(1);
        for (int i = 0; i < 12; i++) {
            due.is("demand " + i, alternatives.demand(0, 0, 0), i);
            due.is("alternatives are no demands", alternatives.or(0, 1), true);
        }
        due.is("the 13th demand", alternatives.demand(0, 0, 0), -1);
        due.solves("twelve demands with alternatives", alternatives, 0);
    }

    /** "Numbered from 0": by those that were taken. */
    private static void refusedDemandsTakeNoNumber() {
        ConflictSolve x = Due.withPacks(1);
        for (int i = 0; i < 12; i++) {
            due.is("no kind", x.demand(3, 0, 1), -1);
            due.is("no kind", x.demand(-1, 0, 1), -1);
            due.is("no package", x.demand(0, 1, 1), -1);
            due.is("no package", x.demand(0, -1, 1), -1);
            due.is("leaveOut(" + i + ", true) before it is there", x.leaveOut(i, true), false);
            due.is("demand " + i + " behind refused ones", x.demand(0, 0, 1), i);
        }
        due.solves("twelve demands", x, 0);
    }

    /** "There are none such" is as by now: a package isn't there before pack(). */
    private static void packagesThatComeLater() {
        ConflictSolve x = new ConflictSolve();
        for (int pack = 0; pack < 8; pack++) {
            due.is("demand on package " + pack + " to come", x.demand(0, pack, 1), -1);
            x.pack(1);
            due.is("demand on package " + pack + " now", x.demand(0, pack, 1), pack);
        }
        due.solves("eight demands", x, 0, 0, 0, 0, 0, 0, 0, 0);
    }
}
