import java.util.List;
import java.util.function.Supplier;

/** Objects in the states at which a refused call could do harm, each made by at most 170 calls. */
final class Scenes {
    private Scenes() {
    }

    static List<Supplier<ConflictSolve>> small() {
        return List.of(Scenes::behindADemand, Scenes::behindARow, Scenes::behindAPeer);
    }

    /** Some choice is right; the latest is a demand that is a NEED with one alternative. */
    static ConflictSolve behindADemand() {
        ConflictSolve x = Due.withPacks(3, 0, 2, 6);
        x.row(0, 2, 0, 2, 1);
        x.or(3, 6);
        x.lock(3, 1);
        x.lock(2, 0);
        x.demand(1, 0, 1);
        x.demand(0, 2, 3);
        x.demand(0, 0, 6);
        x.leaveOut(1, true);
        x.solve();
        x.blame();
        return x;
    }

    /** Was solved, but no choice is right by now; the latest is a row, a NEED with two alternatives. */
    static ConflictSolve behindARow() {
        ConflictSolve x = Due.withPacks(3, 0, 2, 6);
        x.demand(0, 3, 60);
        x.demand(0, 0, 4);
        x.lock(3, 3);
        x.lock(0, 1);
        x.solve();
        x.demand(1, 2, 3);
        x.demand(0, 1, 63);
        x.leaveOut(3, true);
        x.row(0, 2, 0, 2, 1);
        x.or(2, 2);
        x.blame();
        return x;
    }

    /** The latest is a PEER, which has no alternatives, behind a NEED that could have more. */
    static ConflictSolve behindAPeer() {
        ConflictSolve x = Due.withPacks(3, 0, 2, 6);
        x.demand(0, 0, 3);
        x.demand(0, 3, 1);
        x.or(2, 2);
        x.demand(0, 2, 1);
        x.row(0, 1, 0, 3, 8);
        x.row(0, 0, 2, 3, 7);
        x.lock(0, 0);
        x.solve();
        return x;
    }

    /** All room is used up; the latest is the 120th row, a NEED with one alternative. */
    static ConflictSolve fullByARow() {
        ConflictSolve x = Due.withPacks(6, 5, 4, 3, 2, 1, 0, 6);
        addTwelveDemands(x);
        add120Rows(x);
        x.leaveOut(4, true);
        x.lock(7, 2);
        x.solve();
        x.blame();
        return x;
    }

    /** All room is used up; the latest is the twelfth demand, a NEED with one alternative. */
    static ConflictSolve fullByADemand() {
        ConflictSolve x = Due.withPacks(6, 5, 4, 3, 2, 1, 0, 6);
        add120Rows(x);
        addTwelveDemands(x);
        x.leaveOut(11, true);
        x.lock(0, 1);
        x.solve();
        x.blame();
        return x;
    }

    private static void addTwelveDemands(ConflictSolve x) {
        for (int i = 0; i < 11; i++) {
            x.demand(i % 3, i * 5 % 6, 63 >> i % 4);
        }
        x.demand(0, 7, 7);
    }

    private static void add120Rows(ConflictSolve x) {
        for (int i = 0; i < 119; i++) {
            x.row(i % 6, i % 2 * i % (6 - i % 6), 1 + i % 2, (i + 1 + i % 5) % 8, 1 << i % 6);
        }
        x.row(0, 0, 0, 7, 56);
    }
}
