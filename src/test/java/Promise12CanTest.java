import java.util.function.Supplier;

public final class Promise12CanTest {
    private static final Due due = new Due("promise 12");

    public static void main(String[] args) {
        noSuchPackOrVersion();
        someRightChoiceIsEnough();
        noneIsAskedToo();
        noRightChoice();
        falseIfThereIsNoSuchPackage();
        falseIfThereIsNoSuchVersion();
        aNeedOfItself();
        askingChangesNothing();
        due.end();
    }

    private static void noSuchPackOrVersion() {
        ConflictSolve x = Due.withPacks(3, 0);
        int[] noPacks = {-1, 2, 7, 8, 9, Integer.MIN_VALUE, Integer.MAX_VALUE};
        for (int pack : noPacks) {
            due.is("can(" + pack + ", 0)", x.can(pack, 0), false);
            due.is("can(" + pack + ", NONE)", x.can(pack, -1), false);
        }
        int[] noVersions = {-2, 3, 5, 6, 7, 32, 64, 63, Integer.MIN_VALUE, Integer.MAX_VALUE};
        for (int version : noVersions) {
            due.is("can(0, " + version + ")", x.can(0, version), false);
        }
        due.is("a version of a pack without any", x.can(1, 0), false);
        due.is("NONE of a pack without versions", x.can(1, -1), true);
    }

    private static void someRightChoiceIsEnough() {
        ConflictSolve x = Due.withPacks(3, 3, 3);
        x.demand(0, 0, 7);
        x.row(0, 0, 0, 1, 1);
        x.row(1, 0, 1, 2, 2);
        x.lock(0, 2);
        x.solve();
        for (int version = 0; version < 3; version++) {
            due.is("pack 0 can have " + version, x.can(0, version), true);
            due.is("pack 1 can have " + version, x.can(1, version), true);
            due.is("pack 2 can have " + version, x.can(2, version), true);
        }
        x.demand(0, 2, 2);
        due.is("0 needs what is in conflict", x.can(0, 0), false);
        due.is("1 is free", x.can(0, 1), true);
        due.is("in conflict with a demand", x.can(1, 0), false);
        x.leaveOut(1, true);
        due.is("the demand is left out", x.can(0, 0), true);
    }

    private static void noneIsAskedToo() {
        ConflictSolve x = Due.withPacks(2, 2);
        due.is("NONE", x.can(0, -1), true);
        x.demand(0, 0, 3);
        due.is("NONE of a needed one", x.can(0, -1), false);
        due.is("NONE of another", x.can(1, -1), true);
        x.row(0, 0, 0, 1, 1);
        due.is("NONE if another version is chosen", x.can(1, -1), true);
        x.row(0, 1, 0, 1, 2);
        due.is("NONE if each version needs it", x.can(1, -1), false);
        due.is("either version", x.can(1, 0) && x.can(1, 1), true);
    }

    private static void noRightChoice() {
        ConflictSolve x = Due.withPacks(2, 2);
        x.demand(0, 0, 0);
        for (int version = -1; version < 2; version++) {
            due.is("no right choice: can(0, " + version + ")", x.can(0, version), false);
            due.is("no right choice: can(1, " + version + ")", x.can(1, version), false);
        }
    }

    /** "False if there are none such": the package, with a version and with NONE. */
    private static void falseIfThereIsNoSuchPackage() {
        Supplier<ConflictSolve> four = () -> Due.withPacks(6, 6, 6, 6);
        for (int pack : Due.outside(0, 3)) {
            due.refuses("of four: can(" + pack + ", 0)", four, x -> answer(x, pack, 0), 0);
            due.refuses("of four: can(" + pack + ", NONE)", four, x -> answer(x, pack, -1), 0);
        }
        Supplier<ConflictSolve> eight = () -> Due.withPacks(6, 6, 6, 6, 6, 6, 6, 6);
        for (int pack : Due.outside(0, 7)) {
            due.refuses("of eight: can(" + pack + ", 0)", eight, x -> answer(x, pack, 0), 0);
            due.refuses("of eight: can(" + pack + ", NONE)", eight, x -> answer(x, pack, -1), 0);
        }
    }

    /** "False if there are none such": the version, for every count of versions. */
    private static void falseIfThereIsNoSuchVersion() {
        for (int versions = 0; versions <= 6; versions++) {
            int count = versions;
            Supplier<ConflictSolve> scene = () -> Due.withPacks(6, count, 6);
            for (int version : Due.outside(-1, count - 1)) {
                String call = count + " versions: can(1, " + version + ")";
                due.refuses(call, scene, x -> answer(x, 1, version), 0);
            }
            ConflictSolve x = scene.get();
            for (int version = -1; version < count; version++) {
                due.is(count + " versions: can(1, " + version + ")", x.can(1, version), true);
            }
        }
    }

    /** "Whether some RIGHT CHOICE gives": a version that rules itself out can't be given. */
    private static void aNeedOfItself() {
        ConflictSolve x = Due.withPacks(6);
        for (int version = 0; version < 6; version++) {
            due.is("before its row: can(0, " + version + ")", x.can(0, version), true);
            x.row(0, version, version % 3, 0, version % 3 == 1 ? 1 << version : 0);
            due.is("with its row: can(0, " + version + ")", x.can(0, version), false);
            due.is("NONE is left", x.can(0, -1), true);
        }
    }

    /** What was chosen and blamed, and what is asked next, is as if nothing had been asked. */
    private static void askingChangesNothing() {
        for (Supplier<ConflictSolve> scene : Scenes.small()) {
            ConflictSolve asked = scene.get();
            for (int pack = -1; pack < 5; pack++) {
                for (int version = -2; version < 7; version++) {
                    asked.can(pack, version);
                }
            }
            due.same("can() was asked", asked, scene.get());
        }
    }

    private static int answer(ConflictSolve x, int pack, int version) {
        return x.can(pack, version) ? 1 : 0;
    }
}
