public final class Promise02PackTest {
    private static final Due due = new Due("promise 2");

    public static void main(String[] args) {
        numbersGoUpToEight();
        wrongCountsMakeNothing();
        versionsAreThoseTold();
        laterPacksAreTakenIn();
        due.end();
    }

    private static void numbersGoUpToEight() {
        ConflictSolve x = new ConflictSolve();
        for (int i = 0; i < 8; i++) {
            due.is("pack " + i, x.pack(i % 7), i);
        }
        for (int versions = 0; versions <= 6; versions++) {
            due.is("a ninth pack", x.pack(versions), -1);
        }
        due.is("the eighth is there", x.can(7, 0), false);
        due.is("the seventh has its versions", x.can(6, 5), true);
        due.is("no ninth is there", x.can(8, -1), false);
    }

    private static void wrongCountsMakeNothing() {
        ConflictSolve x = new ConflictSolve();
        int[] wrong = {-1, 7, 8, 64, -6, Integer.MIN_VALUE, Integer.MAX_VALUE};
        for (int versions : wrong) {
            due.is("pack(" + versions + ")", x.pack(versions), -1);
        }
        due.is("pack(6) after wrong ones", x.pack(6), 0);
        due.is("pack(0) after wrong ones", x.pack(0), 1);
        due.is("pack(7)", x.pack(7), -1);
        due.is("pack(1)", x.pack(1), 2);
    }

    private static void versionsAreThoseTold() {
        for (int versions = 0; versions <= 6; versions++) {
            ConflictSolve x = Due.withPacks(6, versions, 6);
            for (int version = 0; version < 7; version++) {
                String call = versions + " versions: can(1, " + version + ")";
                due.is(call, x.can(1, version), version < versions);
            }
            due.is(versions + " versions: can(1, NONE)", x.can(1, -1), true);
        }
    }

    private static void laterPacksAreTakenIn() {
        ConflictSolve x = Due.withPacks(1);
        x.demand(0, 0, 1);
        due.solves("one pack", x, 0);
        due.is("pack(3)", x.pack(3), 1);
        due.chosen("a pack that came after solve()", x, 0, -1);
        due.is("can of a later pack", x.can(1, 2), true);
        x.demand(0, 1, 7);
        due.solves("two packs", x, 0, 2);
    }
}
