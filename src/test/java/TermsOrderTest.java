import java.util.function.Consumer;

/** The third part of "Terms": the ORDER of packages, and which choice is the first. */
public final class TermsOrderTest {
    private static final Due due = new Due("terms: order");
    private static final int HELPER = 7;

    public static void main(String[] args) {
        noneIsNeeded();
        allAreNeeded();
        byTheDemandsNumbers();
        alternativesAsTheyCame();
        leftOutOrNot();
        neededTwice();
        onlyDemandsThatAreNeeds();
        packagesThatComeLater();
        everyPlaceOfANeededPackage();
        everyPlaceOfAnother();
        firstPackageAtWhichTheyDiffer();
        due.end();
    }

    /** "Then the others, by number": with no demand they are all the others. */
    private static void noneIsNeeded() {
        isOrder("no demand", x -> { }, new int[] {}, new int[] {0, 1, 2, 3, 4, 5, 6});
    }

    /** With all packages needed there are no others. */
    private static void allAreNeeded() {
        isOrder("all from the last to the first", x -> {
            for (int pack = 6; pack >= 0; pack--) {
                x.demand(0, pack, 3);
            }
        }, new int[] {6, 5, 4, 3, 2, 1, 0}, new int[] {});
        isOrder("all from the first to the last", x -> {
            for (int pack = 0; pack < 7; pack++) {
                x.demand(0, pack, 3);
            }
        }, new int[] {0, 1, 2, 3, 4, 5, 6}, new int[] {});
    }

    /** "By the DEMANDS' numbers", not by the packages'; the others stay by number behind them. */
    private static void byTheDemandsNumbers() {
        isOrder("5, 2, 4", x -> {
            x.demand(0, 5, 3);
            x.demand(0, 2, 3);
            x.demand(0, 4, 3);
        }, new int[] {5, 2, 4}, new int[] {0, 1, 3, 6});
        isOrder("the last alone", x -> x.demand(0, 6, 3), new int[] {6}, new int[] {0, 1, 2, 3, 4, 5});
    }

    /** "ALTERNATIVES as they came": all of a demand before those of the next. */
    private static void alternativesAsTheyCame() {
        isOrder("three of one, two of the next", x -> {
            x.demand(0, 4, 3);
            x.or(1, 3);
            x.or(6, 3);
            x.demand(0, 3, 3);
            x.or(0, 3);
        }, new int[] {4, 1, 6, 3, 0}, new int[] {2, 5});
        isOrder("an empty set stands there as well", x -> {
            x.demand(0, 4, 3);
            x.or(2, 0);
            x.demand(0, 1, 3);
        }, new int[] {4, 2, 1}, new int[] {0, 3, 5, 6});
        isOrder("a fourth is refused", x -> {
            x.demand(0, 4, 3);
            x.or(3, 3);
            x.or(2, 3);
            x.or(1, 3);
            x.demand(0, 0, 3);
        }, new int[] {4, 3, 2, 0}, new int[] {1, 5, 6});
    }

    /** "(LEFT OUT or not)": and before or behind the moment at which it is left out. */
    private static void leftOutOrNot() {
        isOrder("the first is left out", x -> {
            x.demand(0, 5, 3);
            x.leaveOut(0, true);
            x.demand(0, 2, 3);
        }, new int[] {5, 2}, new int[] {0, 1, 3, 4, 6});
        isOrder("all are left out", x -> {
            x.demand(0, 5, 3);
            x.demand(0, 2, 3);
            x.leaveOut(0, true);
            x.or(4, 3);
            x.leaveOut(1, true);
        }, new int[] {5, 2, 4}, new int[] {0, 1, 3, 6});
        isOrder("one is left out and comes back", x -> {
            x.demand(0, 5, 3);
            x.demand(0, 2, 3);
            x.leaveOut(0, true);
            x.leaveOut(0, false);
        }, new int[] {5, 2}, new int[] {0, 1, 3, 4, 6});
    }

    /** A package that is needed again stands where it was needed first. */
    private static void neededTwice() {
        isOrder("by two demands", x -> {
            x.demand(0, 3, 3);
            x.demand(0, 1, 3);
            x.demand(0, 3, 3);
            x.demand(0, 0, 3);
        }, new int[] {3, 1, 0}, new int[] {2, 4, 5, 6});
        isOrder("by one demand", x -> {
            x.demand(0, 3, 1);
            x.or(3, 2);
            x.or(1, 3);
            x.demand(0, 1, 3);
            x.or(0, 3);
            x.or(3, 3);
        }, new int[] {3, 1, 0}, new int[] {2, 4, 5, 6});
    }

    /** "That a DEMAND NEEDS": conflicts, peers and rows give no place among them. */
    private static void onlyDemandsThatAreNeeds() {
        isOrder("conflict and peer", x -> {
            x.demand(1, 6, 0);
            x.demand(2, 5, 3);
        }, new int[] {}, new int[] {0, 1, 2, 3, 4, 5, 6});
        isOrder("conflict and peer before needs", x -> {
            x.demand(1, 6, 0);
            x.demand(2, 5, 3);
            x.demand(0, 2, 3);
            x.demand(0, 5, 3);
        }, new int[] {2, 5}, new int[] {0, 1, 3, 4, 6});
        isOrder("rows", x -> {
            x.row(1, 0, 0, 6, 3);
            x.or(5, 3);
            x.demand(0, 4, 3);
            x.row(1, 1, 0, 2, 3);
            x.or(0, 3);
        }, new int[] {4}, new int[] {0, 1, 2, 3, 5, 6});
    }

    /** Of each two that can't both have what is best for them, the first in the ORDER has it. */
    private static void isOrder(String when, Consumer<ConflictSolve> told, int[] needed, int[] others) {
        for (int i = 0; i < needed.length; i++) {
            for (int j = i + 1; j < needed.length; j++) {
                neededBothWays(when, told, needed[i], needed[j]);
            }
            for (int other : others) {
                ConflictSolve x = packsWith(told);
                x.row(needed[i], 1, 0, other, 1);
                isBefore(when, x, needed[i], 1, other, 0);
            }
        }
        for (int i = 0; i < others.length; i++) {
            for (int j = i + 1; j < others.length; j++) {
                othersBothWays(when, told, others[i], others[j]);
            }
        }
    }

    /** The newest is best for both. */
    private static void neededBothWays(String when, Consumer<ConflictSolve> told, int first, int later) {
        for (int from : new int[] {first, later}) {
            ConflictSolve x = packsWith(told);
            x.row(from, 1, 1, first + later - from, 2);
            isBefore(when, x, first, 1, later, 0);
        }
    }

    /** NONE is best for both. */
    private static void othersBothWays(String when, Consumer<ConflictSolve> told, int first, int later) {
        for (int from : new int[] {first, later}) {
            ConflictSolve x = packsWith(told);
            x.demand(0, HELPER, 1);
            x.row(HELPER, 0, 0, from, 3);
            x.or(first + later - from, 3);
            isBefore(when, x, first, -1, later, 1);
        }
    }

    private static void isBefore(String when, ConflictSolve x, int first, int best, int later, int worse) {
        String pair = when + ": " + first + " before " + later;
        due.is(pair + ": solve()", x.solve(), 1);
        due.is(pair + ": chosen(" + first + ")", x.chosen(first), best);
        due.is(pair + ": chosen(" + later + ")", x.chosen(later), worse);
    }

    private static ConflictSolve packsWith(Consumer<ConflictSolve> told) {
        ConflictSolve x = Due.withPacks(2, 2, 2, 2, 2, 2, 2, 1);
        told.accept(x);
        return x;
    }

    /** Packages that come behind demands are others, the last by number, until they are needed. */
    private static void packagesThatComeLater() {
        ConflictSolve x = Due.withPacks(2, 2);
        x.demand(0, 1, 3);
        x.pack(2);
        due.solves("it is another", x, -1, 1, -1);
        x.row(1, 1, 0, 2, 3);
        x.or(0, 3);
        due.solves("behind the others", x, -1, 1, 1);
        x.or(1, 0);
        x.demand(0, 2, 3);
        due.solves("needed", x, -1, 1, 1);
        x.row(2, 1, 1, 1, 2);
        due.solves("behind those that were needed before", x, -1, 1, 0);
    }

    /** The locked version, newer before older ones, and NONE as the worst: whatever is left. */
    private static void everyPlaceOfANeededPackage() {
        for (int lock = -1; lock < 6; lock++) {
            int[] ranked = {lock, 5, 4, 3, 2, 1, 0, -1};
            for (int left = 1; left < 128; left++) {
                ConflictSolve x = packOfWhichIsLeft(left);
                x.leaveOut(x.demand(0, 0, 63), true);
                x.lock(0, lock);
                int want = firstLeft(ranked, lock == -1 ? 1 : 0, left);
                due.solves("needed, lock " + lock + ", left " + left, x, want);
            }
        }
    }

    /** The locked version, NONE, then newer before older ones: whatever is left. */
    private static void everyPlaceOfAnother() {
        for (int lock = -1; lock < 6; lock++) {
            int[] ranked = {lock, -1, 5, 4, 3, 2, 1, 0};
            for (int left = 1; left < 128; left++) {
                ConflictSolve x = packOfWhichIsLeft(left);
                x.lock(0, lock);
                int want = firstLeft(ranked, 0, left);
                due.solves("another, lock " + lock + ", left " + left, x, want);
            }
        }
    }

    /** Bit 6 is NONE. What is not left is ruled out by rows of a package that must be there. */
    private static ConflictSolve packOfWhichIsLeft(int left) {
        ConflictSolve x = Due.withPacks(6, 1);
        x.demand(0, 1, 1);
        x.row(1, 0, (left & 64) != 0 ? 2 : 0, 0, left);
        return x;
    }

    private static int firstLeft(int[] ranked, int from, int left) {
        for (int i = from; i < ranked.length; i++) {
            int bit = ranked[i] == -1 ? 6 : ranked[i];
            if ((left >> bit & 1) == 1) {
                return ranked[i];
            }
        }
        throw new IllegalStateException("nothing is left");
    }

    /** "Better at the first package .. at which they differ": however bad all behind it is. */
    private static void firstPackageAtWhichTheyDiffer() {
        ConflictSolve x = Due.withPacks(2, 6, 6, 6, 6, 6, 6, 6);
        x.demand(0, 0, 3);
        for (int pack = 1; pack < 8; pack++) {
            x.demand(0, pack, 63);
            x.leaveOut(pack, true);
            x.lock(pack, 3);
            x.row(0, 1, 1, pack, 63);
        }
        due.solves("newest of the first, NONE of all others", x, 1, -1, -1, -1, -1, -1, -1, -1);
        x.lock(0, 0);
        due.solves("the lock of the first", x, 0, 3, 3, 3, 3, 3, 3, 3);

        ConflictSolve y = Due.withPacks(6, 6, 6, 6, 6, 6, 6, 6);
        for (int pack = 0; pack < 7; pack++) {
            y.demand(0, pack, 63);
        }
        y.demand(0, 7, 63);
        y.row(7, 5, 1, 6, 63);
        due.solves("the last gives way", y, 5, 5, 5, 5, 5, 5, 5, 4);
    }
}
