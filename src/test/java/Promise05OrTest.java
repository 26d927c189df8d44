import java.util.function.Supplier;

public final class Promise05OrTest {
    private static final Due due = new Due("promise 5");

    public static void main(String[] args) {
        threeAlternativesAtMost();
        onlyNeedsHaveThem();
        wrongPacksAreRefused();
        itIsOfTheLatest();
        refusedCallsAreNotTheLatest();
        eachAlternativeKeepsTheNeed();
        alternativesOfRowsMakeNothingNeeded();
        alternativesStandInTheOrder();
        noRowOrDemand();
        latestIsNoNeed();
        hasThree();
        noSuchPackage();
        theLastRowAndTheLastDemand();
        emptyAlternatives();
        alternativesOfLeftOutDemands();
        packagesThatComeLater();
        packagesWithoutVersions();
        due.end();
    }

    private static void threeAlternativesAtMost() {
        ConflictSolve x = Due.withPacks(1, 1, 1, 1);
        due.is("or before any row or demand", x.or(0, 1), false);
        x.demand(0, 0, 0);
        due.is("second of a demand", x.or(1, 0), true);
        due.is("third of a demand", x.or(2, 0), true);
        due.is("fourth of a demand", x.or(3, 1), false);
        due.is("the fourth isn't there", x.solve(), 0);
        due.is("the fourth isn't needed", x.leaveOut(0, true), true);
        due.solves("the fourth isn't needed", x, 0, 0, 0, -1);

        ConflictSolve y = Due.withPacks(1, 1, 1, 1);
        y.demand(0, 0, 1);
        y.row(0, 0, 0, 0, 0);
        due.is("second of a row", y.or(1, 0), true);
        due.is("third of a row", y.or(2, 0), true);
        due.is("fourth of a row", y.or(3, 1), false);
        due.is("the fourth of a row isn't there", y.solve(), 0);
    }

    private static void onlyNeedsHaveThem() {
        ConflictSolve x = Due.withPacks(2, 2);
        for (int kind = 1; kind < 3; kind++) {
            x.demand(0, 0, 3);
            x.demand(kind, 0, 3);
            due.is("or of a demand of kind " + kind, x.or(1, 3), false);
            x.row(0, 0, 0, 1, 3);
            x.row(0, 0, kind, 1, 3);
            due.is("or of a row of kind " + kind, x.or(1, 3), false);
        }
    }

    private static void wrongPacksAreRefused() {
        ConflictSolve x = Due.withPacks(1, 2);
        x.demand(0, 0, 0);
        int[] noPacks = {-1, 2, 8, Integer.MIN_VALUE, Integer.MAX_VALUE};
        for (int pack : noPacks) {
            due.is("or(" + pack + ", 63)", x.or(pack, 63), false);
        }
        due.is("refused ones aren't there", x.solve(), 0);
        due.is("second after refused ones", x.or(1, 0xffffffc0), true);
        due.is("bits that mean nothing", x.solve(), 0);
        due.is("third after refused ones", x.or(1, -2), true);
        due.solves("third after refused ones", x, 0, 1);
    }

    private static void itIsOfTheLatest() {
        ConflictSolve x = Due.withPacks(1, 2, 2);
        x.demand(0, 0, 1);
        x.row(0, 0, 0, 1, 0);
        x.demand(0, 0, 0);
        due.is("or of the demand", x.or(2, 1), true);
        due.is("the row has none of it", x.solve(), 0);
        x.row(0, 0, 0, 2, 0);
        due.is("or of the row", x.or(2, 1), true);
        x.leaveOut(1, true);
        due.is("only the latest row has it", x.solve(), 0);

        ConflictSolve y = Due.withPacks(1, 2, 2);
        y.demand(0, 0, 1);
        y.row(0, 0, 0, 1, 0);
        due.is("or of a row behind a demand", y.or(1, 1), true);
        due.solves("or of a row behind a demand", y, 0, 0, -1);
        y.pack(1);
        y.solve();
        y.lock(1, 1);
        y.leaveOut(0, true);
        y.leaveOut(0, false);
        y.blame();
        due.is("calls between don't matter", y.or(1, 2), true);
        due.solves("calls between don't matter", y, 0, 1, -1);
    }

    private static void refusedCallsAreNotTheLatest() {
        ConflictSolve x = Due.withPacks(1, 2);
        x.demand(0, 0, 0);
        x.row(0, 1, 1, 0, 1);
        x.demand(1, 2, 1);
        x.demand(4, 0, 1);
        x.row(0, 0, 3, 0, 1);
        due.is("or behind refused calls", x.or(1, 1), true);
        due.solves("or behind refused calls", x, 0, 0);
        x.or(1, 0);
        x.demand(0, 2, 1);
        x.row(0, 1, 0, 0, 1);
        due.is("refused calls make no new room", x.or(1, 2), false);
    }

    private static void eachAlternativeKeepsTheNeed() {
        for (int ready = 0; ready < 3; ready++) {
            ConflictSolve x = Due.withPacks(1, 2, 2, 2);
            x.demand(0, 0, 1);
            x.row(0, 0, 0, 1, 2);
            x.or(2, 2);
            x.or(3, 2);
            due.is("any but none", x.can(1, -1), true);
            for (int i = 0; i < 3; i++) {
                if (i != ready) {
                    x.demand(1, 1 + i, 2);
                }
            }
            int[] want = {0, -1, -1, -1};
            want[1 + ready] = 1;
            due.solves("alternative " + ready, x, want);
            due.is("it is needed then", x.must(1 + ready), true);
            x.demand(1, 1 + ready, 2);
            due.is("no alternative is left", x.solve(), 0);
        }
        ConflictSolve same = Due.withPacks(6);
        same.demand(0, 0, 1);
        same.or(0, 4);
        same.or(0, 16);
        for (int version = -1; version < 6; version++) {
            boolean want = version >= 0 && version % 2 == 0;
            due.is("one package thrice: can(0, " + version + ")", same.can(0, version), want);
        }
    }

    private static void alternativesOfRowsMakeNothingNeeded() {
        ConflictSolve x = Due.withPacks(1, 2, 2, 2);
        x.demand(0, 0, 1);
        x.row(0, 0, 0, 1, 3);
        x.or(2, 3);
        due.solves("others have NONE if they can", x, 0, -1, 1, -1);
    }

    private static void alternativesStandInTheOrder() {
        ConflictSolve x = Due.withPacks(2, 2, 2);
        x.row(0, 1, 1, 1, 2);
        x.row(0, 1, 1, 2, 2);
        x.row(1, 1, 1, 2, 2);
        x.demand(0, 1, 3);
        x.or(2, 3);
        x.demand(0, 0, 3);
        due.solves("order 1, 2, 0", x, 0, 1, 0);

        ConflictSolve y = Due.withPacks(2, 2, 2);
        y.row(0, 1, 1, 1, 2);
        y.row(0, 1, 1, 2, 2);
        y.row(1, 1, 1, 2, 2);
        y.demand(0, 2, 0);
        y.or(0, 3);
        y.or(1, 3);
        due.solves("order 2, 0, 1", y, 0, 0, 1);
    }

    /** "The latest row or DEMAND": there may be none yet. */
    private static void noRowOrDemand() {
        due.refuses("or(0, 1) of nothing", ConflictSolve::new, x -> answer(x, 0, 1), 0);
        due.refuses("or(0, 1) of packages alone", () -> Due.withPacks(2, 2), x -> answer(x, 0, 1), 0);
        Supplier<ConflictSolve> refusedOnes = () -> {
            ConflictSolve x = Due.withPacks(2, 2);
            x.row(0, 2, 0, 1, 0);
            x.demand(0, 2, 0);
            return x;
        };
        due.refuses("or(0, 1) of refused ones", refusedOnes, x -> answer(x, 0, 1), 0);
    }

    /** "False if that is no NEED": even if the one before it is. */
    private static void latestIsNoNeed() {
        for (int kind = 1; kind < 3; kind++) {
            int fine = kind;
            Supplier<ConflictSolve> row = () -> {
                ConflictSolve x = Due.withPacks(2, 2);
                x.demand(0, 0, 2);
                x.row(0, 1, 0, 1, 1);
                x.row(0, 1, fine, 1, 2);
                return x;
            };
            due.refuses("or() of a row of kind " + kind, row, x -> answer(x, 1, 2), 0);
            Supplier<ConflictSolve> demand = () -> {
                ConflictSolve x = Due.withPacks(2, 2);
                x.row(0, 1, 0, 1, 1);
                x.demand(0, 0, 2);
                x.demand(fine, 1, 2);
                return x;
            };
            due.refuses("or() of a demand of kind " + kind, demand, x -> answer(x, 1, 2), 0);
        }
    }

    /** "Has three (with the first)": the second and third are taken, the fourth isn't. */
    private static void hasThree() {
        Supplier<ConflictSolve> demand = () -> {
            ConflictSolve x = Due.withPacks(2, 2, 2, 2);
            x.demand(0, 0, 0);
            due.is("second of a demand", x.or(1, 0), true);
            due.is("third of a demand", x.or(2, 0), true);
            return x;
        };
        Supplier<ConflictSolve> row = () -> {
            ConflictSolve x = Due.withPacks(2, 2, 2, 2);
            x.demand(0, 0, 2);
            x.row(0, 1, 0, 0, 0);
            due.is("second of a row", x.or(1, 0), true);
            due.is("third of a row", x.or(2, 0), true);
            return x;
        };
        for (int pack = 0; pack < 4; pack++) {
            int fine = pack;
            due.refuses("fourth of a demand: or(" + pack + ", 3)", demand, x -> answer(x, fine, 3), 0);
            due.refuses("fourth of a row: or(" + pack + ", 3)", row, x -> answer(x, fine, 3), 0);
        }
    }

    /** "Or there is no such package": and no alternative is used up by it. */
    private static void noSuchPackage() {
        for (Supplier<ConflictSolve> scene : Scenes.small()) {
            for (int pack : Due.outside(0, 3)) {
                due.refuses("or(" + pack + ", 63)", scene, x -> answer(x, pack, 63), 0);
            }
        }
    }

    /** "Whichever came last": also when no row or demand can come any more. */
    private static void theLastRowAndTheLastDemand() {
        ConflictSolve x = Scenes.fullByARow();
        due.is("a 121st row", x.row(0, 0, 1, 0, 1), false);
        due.is("a 13th demand", x.demand(1, 0, 1), -1);
        due.is("second of the 120th row", x.or(7, 1), true);
        due.is("third of the 120th row", x.or(7, 1), true);
        due.is("fourth of the 120th row", x.or(7, 1), false);
        ConflictSolve y = Scenes.fullByADemand();
        due.is("a 121st row", y.row(0, 0, 1, 0, 1), false);
        due.is("a 13th demand", y.demand(1, 0, 1), -1);
        due.is("second of the twelfth demand", y.or(7, 1), true);
        due.is("third of the twelfth demand", y.or(7, 1), true);
        due.is("fourth of the twelfth demand", y.or(7, 1), false);
    }

    /** An alternative with an empty SET is one of the three, but holds never. */
    private static void emptyAlternatives() {
        ConflictSolve x = Due.withPacks(2);
        x.demand(0, 0, 0);
        due.is("an empty second", x.or(0, 0), true);
        due.is("two that are empty", x.solve(), 0);
        due.is("a third that isn't", x.or(0, 1), true);
        due.solves("a third that isn't", x, 0);
        due.is("a fourth", x.or(0, 2), false);
        due.solves("a fourth", x, 0);
    }

    /** A demand that is left out is still the latest. */
    private static void alternativesOfLeftOutDemands() {
        ConflictSolve x = Due.withPacks(2, 2);
        x.demand(0, 0, 0);
        x.leaveOut(0, true);
        due.is("or of a demand that is left out", x.or(1, 1), true);
        due.solves("a package that it needs", x, 1, 1);
        x.leaveOut(0, false);
        due.solves("it counts again", x, 1, 0);
        due.blames("it counts again", x);
    }

    /** "No such package" is as by now: a package isn't there before pack(). */
    private static void packagesThatComeLater() {
        ConflictSolve x = Due.withPacks(2);
        x.demand(0, 0, 0);
        due.is("or on a package to come", x.or(1, 1), false);
        x.pack(2);
        due.is("or on it now", x.or(1, 1), true);
        due.solves("or on it now", x, 1, 0);
    }

    private static int answer(ConflictSolve x, int pack, int set) {
        return x.or(pack, set) ? 1 : 0;
    }

    /** A package without versions is there as well, though no version of it can be. */
    private static void packagesWithoutVersions() {
        ConflictSolve x = Due.withPacks(2, 0);
        x.demand(0, 0, 1);
        due.is("or of a demand, on a package without versions", x.or(1, 63), true);
        due.solves("the first holds", x, 0, -1);
        x.row(0, 0, 0, 1, 63);
        due.is("or of a row, on a package without versions", x.or(1, 63), true);
        due.is("the row can't hold", x.solve(), 0);
        due.is("third of the row", x.or(0, 1), true);
        due.solves("the third holds", x, 0, -1);
    }
}
