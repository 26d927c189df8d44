public final class Promise12CanTest {
    private static final Due due = new Due("promise 12");

    public static void main(String[] args) {
        noSuchPackOrVersion();
        someRightChoiceIsEnough();
        noneIsAskedToo();
        noRightChoice();
        due.end();
    }

    private static void noSuchPackOrVersion() {
        ConflictSolve x = Due.withPacks(3, 0);
        int[] noPacks = {-1, 2, 7, 8, 9, Integer.MIN_VALUE, Integer.MAX_VALUE};
        for (int pack : noPacks) {
            due.is("can(" + pack + ", 0)", x.can(pack, 0), false);
            due.is("can(" + pack + ", NONE)", x.can(pack, -1), false);
        }
        int[] noVersions = {-2, 3, 5, 6, 7, 32, 64, 63, Integer.MIN_VALUE, Integer.MAX_VALUE};
        for (int version : noVersions) {
            due.is("can(0, " + version + ")", x.can(0, version), false);
        }
        due.is("a version of a pack without any", x.can(1, 0), false);
        due.is("NONE of a pack without versions", x.can(1, -1), true);
    }

    private static void someRightChoiceIsEnough() {
        ConflictSolve x = Due.withPacks(3, 3, 3);
        x.demand(0, 0, 7);
        x.row(0, 0, 0, 1, 1);
        x.row(1, 0, 1, 2, 2);
        x.lock(0, 2);
        x.solve();
        for (int version = 0; version < 3; version++) {
            due.is("pack 0 can have " + version, x.can(0, version), true);
            due.is("pack 1 can have " + version, x.can(1, version), true);
            due.is("pack 2 can have " + version, x.can(2, version), true);
        }
        x.demand(0, 2, 2);
        due.is("0 needs what is in conflict", x.can(0, 0), false);
        due.is("1 is free", x.can(0, 1), true);
        due.is("in conflict with a demand", x.can(1, 0), false);
        x.leaveOut(1, true);
        due.is("the demand is left out", x.can(0, 0), true);
    }

    private static void noneIsAskedToo() {
        ConflictSolve x = Due.withPacks(2, 2);
        due.is("NONE", x.can(0, -1), true);
        x.demand(0, 0, 3);
        due.is("NONE of a needed one", x.can(0, -1), false);
        due.is("NONE of another", x.can(1, -1), true);
        x.row(0, 0, 0, 1, 1);
        due.is("NONE if another version is chosen", x.can(1, -1), true);
        x.row(0, 1, 0, 1, 2);
        due.is("NONE if each version needs it", x.can(1, -1), false);
        due.is("either version", x.can(1, 0) && x.can(1, 1), true);
    }

    private static void noRightChoice() {
        ConflictSolve x = Due.withPacks(2, 2);
        x.demand(0, 0, 0);
        for (int version = -1; version < 2; version++) {
            due.is("no right choice: can(0, " + version + ")", x.can(0, version), false);
            due.is("no right choice: can(1, " + version + ")", x.can(1, version), false);
        }
    }
}
