import java.util.List;

public final class Promise01NewObjectTest {
    private static final Due due = new Due("promise 1");

    public static void main(String[] args) {
        constantIsAsTold();
        nothingIsThere();
        objectsAreApart();
        noPackages();
        noRows();
        noDemands();
        noLocks();
        aNewObjectLeavesTheOthers();
        due.end();
    }

    private static void constantIsAsTold() {
        due.is("NONE", ConflictSolve.NONE, -1);
    }

    private static void nothingIsThere() {
        ConflictSolve x = new ConflictSolve();
        for (int pack = -1; pack < 9; pack++) {
            due.is("chosen(" + pack + ")", x.chosen(pack), -1);
            due.is("must(" + pack + ")", x.must(pack), false);
            due.is("can(" + pack + ", NONE)", x.can(pack, -1), false);
            due.is("can(" + pack + ", 0)", x.can(pack, 0), false);
            due.is("lock(" + pack + ", NONE)", x.lock(pack, -1), false);
            due.is("row(" + pack + ", ..)", x.row(pack, 0, 0, 0, 1), false);
            due.is("demand(0, " + pack + ", 1)", x.demand(0, pack, 1), -1);
            due.is("or(" + pack + ", 1)", x.or(pack, 1), false);
        }
        due.is("leaveOut(0, true)", x.leaveOut(0, true), false);
        due.blamed("before any blame()", x);
        due.is("solve() of nothing", x.solve(), 1);
        due.blames("nothing", x);
        due.is("the first pack", x.pack(1), 0);
        due.is("the first demand", x.demand(2, 0, 1), 0);
        due.solves("no lock, no row", x, -1);
    }

    private static void objectsAreApart() {
        ConflictSolve x = Due.withPacks(2, 2);
        x.demand(0, 0, 3);
        x.lock(0, 0);
        x.solve();
        ConflictSolve y = new ConflictSolve();
        due.is("pack of another object", y.pack(3), 0);
        due.is("chosen of another object", y.chosen(0), -1);
        due.is("demand of another object", y.demand(0, 0, 7), 0);
        due.solves("another object", y, 2);
        due.chosen("the one object", x, 0, -1);
    }

    /** "No packages": all eight can still come. */
    private static void noPackages() {
        ConflictSolve x = new ConflictSolve();
        for (int pack = 0; pack < 8; pack++) {
            due.is("a new object: must(" + pack + ")", x.must(pack), false);
            due.is("a new object: can(" + pack + ", NONE)", x.can(pack, -1), false);
            due.is("a new object: pack " + pack, x.pack(6), pack);
        }
        due.is("a new object: a ninth pack", x.pack(6), -1);
    }

    /** "No rows": or() has none to go to, every version can be, and 120 can still come. */
    private static void noRows() {
        ConflictSolve x = Due.withPacks(6, 6);
        due.is("a new object: or()", x.or(0, 63), false);
        for (int version = -1; version < 6; version++) {
            due.is("a new object: can(0, " + version + ")", x.can(0, version), true);
            due.is("a new object: can(1, " + version + ")", x.can(1, version), true);
        }
        for (int i = 0; i < 120; i++) {
            due.is("a new object: row " + i, x.row(0, 5, 0, 1, 63), true);
        }
        due.is("a new object: row 120", x.row(0, 5, 0, 1, 63), false);
    }

    /** "No demands": none to leave out or to blame, no package is needed, and 12 can still come. */
    private static void noDemands() {
        ConflictSolve x = Due.withPacks(2);
        for (int demand = 0; demand < 12; demand++) {
            due.is("a new object: leaveOut(" + demand + ", true)", x.leaveOut(demand, true), false);
            due.is("a new object: leaveOut(" + demand + ", false)", x.leaveOut(demand, false), false);
        }
        due.blames("a new object", x);
        due.solves("a new object", x, -1);
        for (int demand = 0; demand < 12; demand++) {
            due.is("a new object: demand " + demand, x.demand(0, 0, 3), demand);
        }
        due.is("a new object: demand 12", x.demand(0, 0, 3), -1);
    }

    /** "No locks": needed packages have their newest version, others NONE. */
    private static void noLocks() {
        ConflictSolve x = Due.withPacks(6, 5, 4, 3, 2, 1, 6, 6);
        due.solves("a new object, none needed", x, -1, -1, -1, -1, -1, -1, -1, -1);
        for (int pack = 0; pack < 8; pack++) {
            x.demand(0, pack, 63);
        }
        due.solves("a new object, all needed", x, 5, 4, 3, 2, 1, 0, 5, 5);
    }

    /** Whatever an object holds is as it was when another one is made and used. */
    private static void aNewObjectLeavesTheOthers() {
        ConflictSolve alone = Scenes.behindARow();
        List<String> want = Answers.of(alone);
        ConflictSolve beside = Scenes.behindARow();
        new ConflictSolve();
        Answers.of(Scenes.fullByADemand());
        Answers.of(Scenes.behindADemand());
        due.is("beside other objects", Answers.of(beside).equals(want), true);

        ConflictSolve x = Due.withPacks(2, 2);
        x.row(0, 1, 1, 1, 2);
        x.demand(0, 1, 3);
        x.demand(0, 0, 3);
        new ConflictSolve();
        due.solves("its own order", x, 0, 1);
    }
}
