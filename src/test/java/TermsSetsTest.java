/** The first part of "Terms": packages, their versions, choices and SETS. */
public final class TermsSetsTest {
    private static final Due due = new Due("terms: sets");

    /** Where a SET can be told: by a row or a demand of each kind, and by or() of each. */
    private static final int WAYS = 8;

    public static void main(String[] args) {
        versionsGoFromZeroUpToFive();
        eachPackageHasOneOfItsVersionsOrNone();
        bitsBehindTheFifthMeanNothing();
        versionsThatAreNotThereMeanNothing();
        eachBitIsAVersionOfItsOwn();
        due.end();
    }

    /** "VERSIONS 0 .. up to 5 (a greater one is newer)": the newest is the greatest there is. */
    private static void versionsGoFromZeroUpToFive() {
        for (int versions = 1; versions <= 6; versions++) {
            ConflictSolve x = Due.withPacks(versions);
            x.demand(0, 0, 63);
            due.solves(versions + " versions: the newest", x, versions - 1);
            x.demand(0, 0, 1);
            due.solves(versions + " versions: the oldest", x, 0);
        }
    }

    /** "A CHOICE gives each package one of its VERSIONS, or NONE": NONE alone without versions. */
    private static void eachPackageHasOneOfItsVersionsOrNone() {
        ConflictSolve x = Due.withPacks(0, 6);
        due.is("NONE of a package without versions", x.can(0, -1), true);
        for (int version = 0; version < 6; version++) {
            due.is("no versions: can(0, " + version + ")", x.can(0, version), false);
        }
        x.demand(2, 0, 63);
        x.demand(1, 0, 63);
        due.solves("peer and conflict of a package without versions", x, -1, -1);
        x.demand(0, 1, 1);
        x.demand(0, 1, 2);
        due.is("two versions at once", x.solve(), 0);
    }

    /** "Bits 0 .. 5 (others mean nothing": each one alone, and all of them. */
    private static void bitsBehindTheFifthMeanNothing() {
        int[] sets = {0, 1, 21, 32, 63};
        for (int way = 0; way < WAYS; way++) {
            for (int set : sets) {
                for (int bit = 6; bit < 32; bit++) {
                    compare(way, 6, set, 1 << bit);
                }
                compare(way, 6, set, -64);
            }
        }
    }

    /** "Nor do versions that aren't there": for every count of versions. */
    private static void versionsThatAreNotThereMeanNothing() {
        for (int way = 0; way < WAYS; way++) {
            for (int versions = 0; versions <= 6; versions++) {
                int there = (1 << versions) - 1;
                for (int set = 0; set <= there; set++) {
                    compare(way, versions, set, ~there);
                    if (versions < 6) {
                        compare(way, versions, set, 1 << versions);
                        compare(way, versions, set, 32);
                    }
                }
            }
        }
    }

    private static void compare(int way, int versions, int set, int more) {
        String when = "way " + way + ", " + versions + " versions: " + set + " and " + (set | more);
        due.same(when, told(way, versions, set | more), told(way, versions, set));
    }

    /** Package 1 has so many versions, those beside it all; the SET is told of package 1. */
    private static ConflictSolve told(int way, int versions, int set) {
        ConflictSolve x = Due.withPacks(6, versions, 6);
        x.demand(0, 0, 32);
        if (way < 3) {
            x.row(0, 5, way, 1, set);
        } else if (way < 6) {
            x.demand(way - 3, 1, set);
        } else if (way == 6) {
            x.row(0, 5, 0, 2, 2);
            x.or(1, set);
        } else {
            x.demand(0, 2, 2);
            x.or(1, set);
        }
        return x;
    }

    /** "A SET of versions is bits 0 .. 5": bit 0 and bit 5 as well as those between. */
    private static void eachBitIsAVersionOfItsOwn() {
        for (int way = 0; way < WAYS; way++) {
            for (int set = 0; set < 64; set++) {
                ConflictSolve x = told(way, 6, set);
                if (way >= 6) {
                    x.demand(1, 2, 2);
                }
                for (int version = -1; version < 6; version++) {
                    boolean in = version >= 0 && (set >> version & 1) == 1;
                    boolean want = switch (way) {
                        case 1, 4 -> !in;
                        case 2, 5 -> in || version == -1;
                        default -> in;
                    };
                    String call = "way " + way + ", set " + set + ": can(1, " + version + ")";
                    due.is(call, x.can(1, version), want);
                }
            }
        }
    }
}
