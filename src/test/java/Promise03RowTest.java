import java.util.function.Supplier;

public final class Promise03RowTest {
    private static final Due due = new Due("promise 3");

    public static void main(String[] args) {
        wrongRowsAreRefused();
        refusedRowsDoNothing();
        only120RowsAreTaken();
        needHolds();
        conflictHolds();
        peerHolds();
        rowsCountAtTheirVersionAlone();
        rowsOfTheSamePackage();
        otherBitsMeanNothing();
        noSuchPackage();
        noSuchVersion();
        noSuchKind();
        noSuchOther();
        noMoreThan120();
        refusedRowsTakeNoRoom();
        packagesThatComeLater();
        due.end();
    }

    private static void wrongRowsAreRefused() {
        ConflictSolve x = Due.withPacks(3, 0, 6);
        int[] noPacks = {-1, 3, 8, Integer.MIN_VALUE, Integer.MAX_VALUE};
        for (int pack : noPacks) {
            due.is("row of no pack " + pack, x.row(pack, 0, 0, 0, 1), false);
            due.is("row on no pack " + pack, x.row(0, 0, 0, pack, 1), false);
        }
        int[] noVersions = {-1, 3, 5, 6, 32, 64, Integer.MIN_VALUE, Integer.MAX_VALUE};
        for (int version : noVersions) {
            due.is("row of no version " + version, x.row(0, version, 0, 2, 1), false);
        }
        due.is("row of a pack without versions", x.row(1, 0, 0, 0, 1), false);
        due.is("row of NONE of a pack without versions", x.row(1, -1, 0, 0, 1), false);
        due.is("row of the version behind the last", x.row(2, 6, 0, 0, 1), false);
        int[] noKinds = {-1, 3, 4, Integer.MIN_VALUE, Integer.MAX_VALUE};
        for (int kind : noKinds) {
            due.is("row of no kind " + kind, x.row(0, 0, kind, 2, 1), false);
        }
        for (int kind = 0; kind < 3; kind++) {
            due.is("row of kind " + kind, x.row(0, 2, kind, 2, 1), true);
            due.is("row on a pack without versions", x.row(2, 5, kind, 1, 1), true);
        }
    }

    private static void refusedRowsDoNothing() {
        ConflictSolve x = Due.withPacks(2, 2);
        x.demand(0, 0, 3);
        x.row(0, 2, 1, 0, 3);
        x.row(0, 1, 3, 0, 2);
        x.row(0, -1, 1, 0, 3);
        x.row(2, 0, 1, 0, 3);
        due.solves("refused rows", x, 1, -1);
    }

    private static void only120RowsAreTaken() {
        ConflictSolve x = Due.withPacks(2, 2);
        x.demand(0, 0, 3);
        for (int i = 0; i < 119; i++) {
            due.is("row " + i, x.row(0, i % 2, 2, 1, 3), true);
        }
        due.solves("119 rows", x, 1, -1);
        due.is("the 120th row", x.row(0, 1, 0, 1, 1), true);
        due.solves("120 rows", x, 1, 0);
        due.is("the 121st row", x.row(0, 1, 1, 0, 2), false);
        due.is("the 122nd row", x.row(0, 0, 0, 1, 2), false);
        due.solves("still 120 rows", x, 1, 0);
        due.is("or of the 120th row", x.or(0, 2), true);
        due.solves("an alternative of the 120th row", x, 1, -1);
    }

    private static void needHolds() {
        ConflictSolve x = Due.withPacks(2, 4);
        x.demand(0, 0, 3);
        x.row(0, 1, 0, 1, 6);
        due.solves("need", x, 1, 2);
        due.is("NONE doesn't keep a need", x.can(1, -1), true);
        x.demand(0, 0, 2);
        due.is("NONE doesn't keep a need that counts", x.can(1, -1), false);
        due.is("a version of the set", x.can(1, 1), true);
        due.is("a version below the set", x.can(1, 0), false);
        due.is("a version above the set", x.can(1, 3), false);
        x.row(0, 1, 0, 1, 0);
        due.is("no version is in an empty set", x.solve(), 0);
    }

    private static void conflictHolds() {
        ConflictSolve x = Due.withPacks(1, 4);
        x.demand(0, 0, 1);
        x.row(0, 0, 1, 1, 6);
        due.is("conflict: NONE", x.can(1, -1), true);
        due.is("conflict: 0", x.can(1, 0), true);
        due.is("conflict: 1", x.can(1, 1), false);
        due.is("conflict: 2", x.can(1, 2), false);
        due.is("conflict: 3", x.can(1, 3), true);
        x.demand(0, 1, 15);
        due.solves("conflict", x, 0, 3);
        x.row(0, 0, 1, 1, 8);
        due.solves("two conflicts", x, 0, 0);
        x.row(0, 0, 1, 1, 0);
        due.solves("a conflict with nothing", x, 0, 0);
    }

    private static void peerHolds() {
        ConflictSolve x = Due.withPacks(1, 4);
        x.demand(0, 0, 1);
        x.row(0, 0, 2, 1, 6);
        due.is("peer: NONE", x.can(1, -1), true);
        due.is("peer: 0", x.can(1, 0), false);
        due.is("peer: 1", x.can(1, 1), true);
        due.is("peer: 2", x.can(1, 2), true);
        due.is("peer: 3", x.can(1, 3), false);
        due.solves("peer", x, 0, -1);
        x.demand(0, 1, 15);
        due.solves("peer that is there", x, 0, 2);
        x.row(0, 0, 2, 1, 0);
        due.is("peer of an empty set", x.solve(), 0);
    }

    private static void rowsCountAtTheirVersionAlone() {
        ConflictSolve x = Due.withPacks(3, 2);
        x.row(0, 1, 0, 1, 0);
        due.is("version 0", x.can(0, 0), true);
        due.is("version 1, whose row can't hold", x.can(0, 1), false);
        due.is("version 2", x.can(0, 2), true);
        due.is("NONE", x.can(0, -1), true);
        due.solves("a row that doesn't count", x, -1, -1);
    }

    private static void rowsOfTheSamePackage() {
        ConflictSolve x = Due.withPacks(4);
        x.demand(0, 0, 15);
        due.is("conflict with itself", x.row(0, 3, 1, 0, 8), true);
        due.solves("conflict with itself", x, 2);
        due.is("need of itself at another version", x.row(0, 2, 0, 0, 11), true);
        due.solves("need of itself at another version", x, 1);
        due.is("need of itself at that version", x.row(0, 1, 0, 0, 2), true);
        due.is("peer of itself at that version", x.row(0, 1, 2, 0, 2), true);
        due.is("conflict with its other versions", x.row(0, 1, 1, 0, 13), true);
        due.solves("rows that it keeps itself", x, 1);
        due.is("peer of itself at another version", x.row(0, 1, 2, 0, 1), true);
        due.solves("peer of itself at another version", x, 0);
    }

    private static void otherBitsMeanNothing() {
        ConflictSolve x = Due.withPacks(1, 2, 6);
        x.demand(0, 0, 1);
        x.row(0, 0, 0, 1, ~1);
        due.solves("need, all bits but 0", x, 0, 1, -1);
        x.row(0, 0, 1, 1, ~3);
        x.row(0, 0, 1, 2, 0x7fffffc0);
        due.solves("conflict with versions that aren't there", x, 0, 1, -1);
        due.is("versions of the next package", x.can(2, 5), true);
        x.row(0, 0, 0, 1, 0xfffffffc);
        due.is("need of versions that aren't there", x.solve(), 0);
    }

    /** "False if there are none such": the package that the row is of. */
    private static void noSuchPackage() {
        for (Supplier<ConflictSolve> scene : Scenes.small()) {
            for (int pack : Due.outside(0, 3)) {
                due.refuses("row(" + pack + ", 0, 0, 0, 0)", scene, x -> answer(x, pack, 0, 0, 0), 0);
            }
        }
    }

    /** "False if there are none such": the version, for every count of versions. */
    private static void noSuchVersion() {
        for (int versions = 0; versions <= 6; versions++) {
            int count = versions;
            Supplier<ConflictSolve> scene = () -> Due.withPacks(6, count, 6);
            for (int version : Due.outside(0, count - 1)) {
                String call = count + " versions: row(1, " + version + ", 0, 0, 0)";
                due.refuses(call, scene, x -> answer(x, 1, version, 0, 0), 0);
            }
            if (count > 0) {
                due.is("the oldest of " + count, scene.get().row(1, 0, 0, 0, 0), true);
                due.is("the newest of " + count, scene.get().row(1, count - 1, 0, 0, 0), true);
            }
        }
        due.refuses("a row of NONE", Scenes::behindARow, x -> answer(x, 0, -1, 0, 0), 0);
    }

    /** "False if there are none such": the kind. */
    private static void noSuchKind() {
        for (Supplier<ConflictSolve> scene : Scenes.small()) {
            for (int kind : Due.outside(0, 2)) {
                due.refuses("row(0, 0, " + kind + ", 0, 0)", scene, x -> answer(x, 0, 0, kind, 0), 0);
            }
        }
    }

    /** "False if there are none such": the package that the row is about. */
    private static void noSuchOther() {
        for (int kind = 0; kind < 3; kind++) {
            int fine = kind;
            for (int other : Due.outside(0, 3)) {
                String call = "row(0, 0, " + kind + ", " + other + ", 0)";
                due.refuses(call, Scenes::behindADemand, x -> answer(x, 0, 0, fine, other), 0);
            }
        }
    }

    /** "False if .. 120 rows": the 120th is taken, the 121st of any kind isn't. */
    private static void noMoreThan120() {
        for (int kind = 0; kind < 3; kind++) {
            int fine = kind;
            int held = kind == 1 ? 0 : 1;
            ConflictSolve room = Due.withPacks(1);
            for (int i = 0; i < 119; i++) {
                due.is("row " + i + ", of kind " + kind, room.row(0, 0, kind, 0, held), true);
            }
            due.is("119 rows that hold", room.can(0, 0), true);
            due.is("the 120th row, of kind " + kind, room.row(0, 0, kind, 0, 1 - held), true);
            due.is("the 120th row doesn't hold", room.can(0, 0), false);
            due.is("the 121st row, of kind " + kind, room.row(0, 0, kind, 0, held), false);
            String call = "the 121st row(0, 0, " + kind + ", 0, 0)";
            due.refuses(call, Scenes::fullByARow, x -> answer(x, 0, 0, fine, 0), 0);
            due.refuses(call, Scenes::fullByADemand, x -> answer(x, 0, 0, fine, 0), 0);
        }
        ConflictSolve alternatives = Due.withPacks(1);
        for (int i = 0; i < 120; i++) {
            due.is("row " + i, alternatives.row(0, 0, 0, 0, 0), true);
            due.is("alternatives are no rows", alternatives.or(0, 0), true);
        }
        due.is("the 121st row", alternatives.row(0, 0, 0, 0, 0), false);
    }

    /** Refused ones aren't among the 120. */
    private static void refusedRowsTakeNoRoom() {
        ConflictSolve x = Due.withPacks(1);
        for (int i = 0; i < 30; i++) {
            due.is("no package", x.row(1, 0, 0, 0, 1), false);
            due.is("no version", x.row(0, 1, 0, 0, 1), false);
            due.is("no kind", x.row(0, 0, 3, 0, 1), false);
            due.is("no other", x.row(0, 0, 0, 1, 1), false);
        }
        for (int i = 0; i < 120; i++) {
            due.is("row " + i + " behind refused ones", x.row(0, 0, 0, 0, 1), true);
        }
        due.is("row 120 behind refused ones", x.row(0, 0, 0, 0, 1), false);
    }

    /** "There are none such" is as by now: a package isn't there before pack(). */
    private static void packagesThatComeLater() {
        ConflictSolve x = Due.withPacks(2);
        due.is("row of a package to come", x.row(1, 0, 0, 0, 1), false);
        due.is("row on a package to come", x.row(0, 1, 0, 1, 1), false);
        x.pack(1);
        x.demand(0, 0, 2);
        due.solves("neither of them was taken", x, 1, -1);
        due.is("row on it now", x.row(0, 1, 0, 1, 1), true);
        due.solves("row on it now", x, 1, 0);
        due.is("row of it now", x.row(1, 0, 0, 0, 1), true);
        due.is("row of it now: solve()", x.solve(), 0);
    }

    private static int answer(ConflictSolve x, int pack, int version, int kind, int other) {
        return x.row(pack, version, kind, other, 0) ? 1 : 0;
    }
}
