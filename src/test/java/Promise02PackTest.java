public final class Promise02PackTest {
    private static final Due due = new Due("promise 2");

    public static void main(String[] args) {
        numbersGoUpToEight();
        wrongCountsMakeNothing();
        versionsAreThoseTold();
        laterPacksAreTakenIn();
        fewestAndMostVersions();
        tooFewOrTooManyVersions();
        noneIfThereAreEight();
        theEighthIsWhole();
        due.end();
    }

    private static void numbersGoUpToEight() {
        ConflictSolve x = new ConflictSolve();
        for (int i = 0; i < 8; i++) {
            due.is("pack " + i, x.pack(i % 7), i);
        }
        for (int versions = 0; versions <= 6; versions++) {
            due.is("a ninth pack", x.pack(versions), -1);
        }
        due.is("the eighth is there", x.can(7, 0), false);
        due.is("the seventh has its versions", x.can(6, 5), true);
        due.is("no ninth is there", x.can(8, -1), false);
    }

    private static void wrongCountsMakeNothing() {
        ConflictSolve x = new ConflictSolve();
        int[] wrong = {-1, 7, 8, 64, -6, Integer.MIN_VALUE, Integer.MAX_VALUE};
        for (int versions : wrong) {
            due.is("pack(" + versions + ")", x.pack(versions), -1);
        }
        due.is("pack(6) after wrong ones", x.pack(6), 0);
        due.is("pack(0) after wrong ones", x.pack(0), 1);
        due.is("pack(7)", x.pack(7), -1);
        due.is("pack(1)", x.pack(1), 2);
    }

    private static void versionsAreThoseTold() {
        for (int versions = 0; versions <= 6; versions++) {
            ConflictSolve x = Due.withPacks(6, versions, 6);
            for (int version = 0; version < 7; version++) {
                String call = versions + " versions: can(1, " + version + ")";
                due.is(call, x.can(1, version), version < versions);
            }
            due.is(versions + " versions: can(1, NONE)", x.can(1, -1), true);
        }
    }

    private static void laterPacksAreTakenIn() {
        ConflictSolve x = Due.withPacks(1);
        x.demand(0, 0, 1);
        due.solves("one pack", x, 0);
        due.is("pack(3)", x.pack(3), 1);
        due.chosen("a pack that came after solve()", x, 0, -1);
        due.is("can of a later pack", x.can(1, 2), true);
        x.demand(0, 1, 7);
        due.solves("two packs", x, 0, 2);
    }

    /** "It isn't 0 .. 6": the edges themselves are fine. */
    private static void fewestAndMostVersions() {
        ConflictSolve x = new ConflictSolve();
        due.is("pack(0)", x.pack(0), 0);
        due.is("pack(6)", x.pack(6), 1);
        due.is("a package without versions: can(0, 0)", x.can(0, 0), false);
        due.is("a package without versions: can(0, NONE)", x.can(0, -1), true);
        due.is("a package of six: can(1, 5)", x.can(1, 5), true);
        due.is("a package of six: can(1, 6)", x.can(1, 6), false);
        due.solves("two packages", x, -1, -1);
    }

    /** "NONE if .. it isn't 0 .. 6", and no number is used up by it. */
    private static void tooFewOrTooManyVersions() {
        for (int versions : Due.outside(0, 6)) {
            String call = "pack(" + versions + ")";
            due.refuses(call, ConflictSolve::new, x -> x.pack(versions), -1);
            due.refuses(call, Scenes::behindARow, x -> x.pack(versions), -1);
        }
    }

    /** "NONE if there are 8", whatever it is that is asked for. */
    private static void noneIfThereAreEight() {
        for (int versions = -1; versions <= 7; versions++) {
            int count = versions;
            String call = "a ninth pack(" + versions + ")";
            due.refuses(call, Scenes::fullByARow, x -> x.pack(count), -1);
            due.refuses(call, Scenes::fullByADemand, x -> x.pack(count), -1);
        }
    }

    /** "PACKAGES, at most 8": the last one can do what the others can. */
    private static void theEighthIsWhole() {
        ConflictSolve x = Due.withPacks(1, 1, 1, 1, 1, 1, 1);
        due.is("can(7, NONE) before it is there", x.can(7, -1), false);
        due.is("the eighth", x.pack(6), 7);
        due.is("demand on the eighth", x.demand(0, 7, 62), 0);
        due.is("row of the eighth", x.row(7, 5, 0, 7, 31), true);
        due.solves("the eighth", x, -1, -1, -1, -1, -1, -1, -1, 4);
        due.is("lock of the eighth", x.lock(7, 1), true);
        due.solves("the eighth, locked", x, -1, -1, -1, -1, -1, -1, -1, 1);
        due.is("must(7)", x.must(7), true);
        due.is("can(7, 0)", x.can(7, 0), false);
        due.is("row on the eighth", x.row(0, 0, 1, 7, 32), true);
        due.is("or on the eighth", x.or(7, 1), false);
        due.is("can(7, 5)", x.can(7, 5), false);
    }
}
