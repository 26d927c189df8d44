import java.util.function.Supplier;

public final class Promise07LockTest {
    private static final Due due = new Due("promise 7");

    public static void main(String[] args) {
        noSuchPackOrVersion();
        lockedVersionIsBest();
        locksOfOthersAreBestToo();
        noneIsNoLock();
        behindALockTheRestIsAsEver();
        locksForceNothing();
        orderIsStrongerThanLocks();
        falseIfThereIsNoSuchPackage();
        falseIfThereIsNoSuchVersion();
        noneWhereThereIsNoLock();
        oneLockAPackage();
        packagesThatComeLater();
        due.end();
    }

    private static void noSuchPackOrVersion() {
        ConflictSolve x = Due.withPacks(3, 0);
        int[] noPacks = {-1, 2, 8, Integer.MIN_VALUE, Integer.MAX_VALUE};
        for (int pack : noPacks) {
            due.is("lock(" + pack + ", 0)", x.lock(pack, 0), false);
            due.is("lock(" + pack + ", NONE)", x.lock(pack, -1), false);
        }
        x.lock(0, 1);
        int[] noVersions = {-2, 3, 5, 6, 8, 32, 64, Integer.MIN_VALUE, Integer.MAX_VALUE};
        for (int version : noVersions) {
            due.is("lock(0, " + version + ")", x.lock(0, version), false);
        }
        due.solves("refused locks change nothing", x, 1, -1);
        due.is("a version of a pack without any", x.lock(1, 0), false);
        due.is("NONE of a pack without versions", x.lock(1, -1), true);
        due.is("NONE", x.lock(0, -1), true);
        due.is("NONE again", x.lock(0, -1), true);
        due.is("a lock", x.lock(0, 2), true);
        due.is("the same lock again", x.lock(0, 2), true);
    }

    private static void lockedVersionIsBest() {
        ConflictSolve x = Due.withPacks(4);
        x.demand(0, 0, 15);
        due.solves("no lock", x, 3);
        for (int version = 0; version < 4; version++) {
            x.lock(0, version);
            due.solves("lock " + version, x, version);
        }
        x.lock(0, 1);
        due.chosen("chosen stays", x, 3);
        x.lock(0, -1);
        due.solves("no lock any more", x, 3);
    }

    private static void locksOfOthersAreBestToo() {
        ConflictSolve x = Due.withPacks(4, 6);
        x.lock(1, 2);
        due.solves("a lock of another", x, -1, 2);
        x.lock(1, -1);
        due.solves("NONE is no lock", x, -1, -1);
        x.lock(0, 0);
        x.lock(1, 5);
        due.solves("two locks", x, 0, 5);
        x.lock(0, -1);
        due.solves("one lock is taken back", x, -1, 5);
    }

    private static void noneIsNoLock() {
        ConflictSolve x = Due.withPacks(3, 3);
        x.demand(0, 0, 7);
        x.or(1, 7);
        x.lock(0, -1);
        x.lock(1, 0);
        x.lock(1, -1);
        due.solves("NONE doesn't become the best", x, 2, 2);
    }

    private static void behindALockTheRestIsAsEver() {
        ConflictSolve x = Due.withPacks(4, 4);
        x.demand(0, 0, 15);
        x.lock(0, 1);
        x.lock(1, 2);
        x.demand(1, 0, 2);
        x.demand(1, 1, 4);
        due.solves("locked versions can't be", x, 3, -1);
        x.demand(1, 0, 8);
        due.solves("next", x, 2, -1);
        x.row(0, 2, 0, 1, 11);
        due.solves("newest of another", x, 2, 3);
    }

    private static void locksForceNothing() {
        ConflictSolve x = Due.withPacks(3);
        x.lock(0, 1);
        due.is("can others", x.can(0, 2), true);
        due.is("can NONE", x.can(0, -1), true);
        due.is("must", x.must(0), false);
        x.demand(1, 0, 2);
        due.is("solve() against a lock", x.solve(), 1);
        due.blames("a lock is not to blame", x);
    }

    private static void orderIsStrongerThanLocks() {
        ConflictSolve x = Due.withPacks(2, 2);
        x.row(0, 1, 1, 1, 1);
        x.demand(0, 0, 3);
        x.demand(0, 1, 3);
        x.lock(1, 0);
        due.solves("the first package goes before a later lock", x, 1, 1);
        x.lock(0, 0);
        due.solves("both locks", x, 0, 0);

        ConflictSolve y = Due.withPacks(2, 2, 2);
        y.row(0, 0, 1, 1, 2);
        y.lock(0, 0);
        y.lock(1, 1);
        due.solves("locks of others go by number", y, 0, -1, -1);
        y.demand(0, 1, 3);
        due.solves("a needed one goes first", y, -1, 1, -1);
    }

    /** "False if there is no such package": with a version, and with NONE. */
    private static void falseIfThereIsNoSuchPackage() {
        for (Supplier<ConflictSolve> scene : Scenes.small()) {
            for (int pack : Due.outside(0, 3)) {
                due.refuses("lock(" + pack + ", 0)", scene, x -> answer(x, pack, 0), 0);
                due.refuses("lock(" + pack + ", NONE)", scene, x -> answer(x, pack, -1), 0);
            }
        }
    }

    /** "False if there is no such .. version": and the lock that was there stays. */
    private static void falseIfThereIsNoSuchVersion() {
        for (int versions = 0; versions <= 6; versions++) {
            int count = versions;
            Supplier<ConflictSolve> scene = () -> {
                ConflictSolve x = Due.withPacks(6, count, 6);
                x.lock(0, 3);
                x.lock(1, count / 2);
                x.lock(2, 2);
                return x;
            };
            for (int version : Due.outside(-1, count - 1)) {
                String call = count + " versions: lock(1, " + version + ")";
                due.refuses(call, scene, x -> answer(x, 1, version), 0);
            }
            for (int version = 0; version < count; version++) {
                ConflictSolve x = scene.get();
                due.is(count + " versions: lock(1, " + version + ")", x.lock(1, version), true);
                due.solves(count + " versions: lock(1, " + version + ")", x, 3, version, 2);
            }
        }
    }

    /** "NONE: it has none": true also where there was no lock, or there are no versions. */
    private static void noneWhereThereIsNoLock() {
        ConflictSolve x = Due.withPacks(3, 0);
        x.demand(0, 0, 7);
        due.is("lock(0, NONE)", x.lock(0, -1), true);
        due.is("lock(1, NONE)", x.lock(1, -1), true);
        due.solves("no lock", x, 2, -1);
        due.is("NONE isn't locked", x.can(0, 1), true);
        due.same("NONE where there is no lock", x, noneWasNotTold());
    }

    private static ConflictSolve noneWasNotTold() {
        ConflictSolve x = Due.withPacks(3, 0);
        x.demand(0, 0, 7);
        x.solve();
        return x;
    }

    /** "The LOCK of a package": a new one takes the place of the old one, of this package alone. */
    private static void oneLockAPackage() {
        ConflictSolve x = Due.withPacks(6, 6, 6);
        for (int pack = 0; pack < 3; pack++) {
            x.lock(pack, 4);
        }
        x.lock(1, 0);
        due.solves("the new lock", x, 4, 0, 4);
        x.demand(1, 1, 1);
        due.solves("the old lock is gone", x, 4, -1, 4);
        x.lock(1, 5);
        due.solves("one more", x, 4, 5, 4);
        x.lock(1, -1);
        due.solves("none", x, 4, -1, 4);
    }

    /** "No such package" is as by now: a lock can't come before its package. */
    private static void packagesThatComeLater() {
        ConflictSolve x = Due.withPacks(2);
        due.is("lock of a package to come", x.lock(1, 0), false);
        x.pack(2);
        due.solves("it has no lock", x, -1, -1);
        due.is("lock of it now", x.lock(1, 0), true);
        due.solves("lock of it now", x, -1, 0);
    }

    private static int answer(ConflictSolve x, int pack, int version) {
        return x.lock(pack, version) ? 1 : 0;
    }
}
