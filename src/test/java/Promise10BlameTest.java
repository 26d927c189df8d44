import java.util.function.Supplier;

public final class Promise10BlameTest {
    private static final Due due = new Due("promise 10");

    public static void main(String[] args) {
        noneIfAChoiceIsRight();
        laterOnesStay();
        goneThroughByNumberOnce();
        leftOutOnesAreNotAsked();
        itIsAsByNow();
        rowsTakePart();
        allTwelve();
        noneIfNothingCounts();
        oneAlone();
        theFirstAndTheLast();
        itLeavesTheRest();
        due.end();
    }

    private static void noneIfAChoiceIsRight() {
        ConflictSolve x = Due.withPacks(2);
        due.blames("no demands", x);
        x.demand(0, 0, 3);
        x.demand(1, 0, 1);
        due.blames("demands that can be kept", x);
    }

    private static void laterOnesStay() {
        ConflictSolve x = Due.withPacks(2, 2);
        x.demand(0, 0, 1);
        x.demand(0, 0, 1);
        x.demand(2, 1, 1);
        x.demand(1, 0, 1);
        due.blames("the first of two alike is taken away", x, 1, 3);
        x.demand(0, 1, 0);
        due.blames("all before one that is enough are taken away", x, 4);
        x.demand(0, 1, 0);
        due.blames("the last one is enough", x, 5);
    }

    private static void goneThroughByNumberOnce() {
        ConflictSolve x = Due.withPacks(6);
        x.demand(0, 0, 3);
        x.demand(0, 0, 6);
        x.demand(0, 0, 12);
        x.demand(0, 0, 24);
        x.demand(0, 0, 5);
        due.blames("3 and 4 differ", x, 3, 4);

        ConflictSolve y = Due.withPacks(3);
        y.demand(1, 0, 1);
        y.demand(1, 0, 2);
        y.demand(1, 0, 4);
        y.demand(0, 0, 7);
        y.demand(2, 0, 6);
        due.blames("each of four is to blame", y, 1, 2, 3, 4);
        y.leaveOut(4, true);
        due.blames("each of the other four", y, 0, 1, 2, 3);
    }

    private static void leftOutOnesAreNotAsked() {
        ConflictSolve x = Due.withPacks(2);
        x.demand(0, 0, 1);
        x.demand(0, 0, 2);
        x.demand(0, 0, 1);
        x.leaveOut(2, true);
        due.blames("2 is out", x, 0, 1);
        x.leaveOut(2, false);
        due.blames("2 is in", x, 1, 2);
        x.leaveOut(1, true);
        due.blames("1 is out", x);
        due.is("what is left out stays so", x.leaveOut(1, true), false);
        due.is("what isn't left out stays so", x.leaveOut(0, false), false);
    }

    private static void itIsAsByNow() {
        ConflictSolve x = Due.withPacks(2);
        x.demand(0, 0, 1);
        x.solve();
        x.demand(1, 0, 1);
        due.blames("without a solve()", x, 0, 1);
        due.chosen("what is chosen stays", x, 0);
        x.leaveOut(0, true);
        due.blames("one left out", x);
        x.leaveOut(0, false);
        due.is("solve() after blame()", x.solve(), 0);
        due.blames("all count again", x, 0, 1);
    }

    private static void rowsTakePart() {
        ConflictSolve x = Due.withPacks(1, 2, 2, 2);
        x.demand(0, 3, 3);
        x.demand(0, 0, 1);
        x.row(0, 0, 0, 1, 3);
        x.row(1, 0, 0, 2, 1);
        x.row(1, 1, 0, 2, 1);
        x.demand(1, 2, 1);
        due.blames("by way of rows", x, 1, 2);
        x.demand(2, 2, 2);
        due.blames("by way of rows, the later one", x, 1, 3);
    }

    private static void allTwelve() {
        ConflictSolve x = Due.withPacks(6, 6);
        for (int version = 0; version < 6; version++) {
            x.demand(1, 0, 1 << version);
        }
        for (int version = 0; version < 5; version++) {
            x.demand(1, 1, 1 << version);
        }
        x.demand(0, 0, 63);
        x.or(1, 31);
        due.blames("all twelve", x, 0, 1, 2, 3, 4, 5, 6, 7, 8, 9, 10, 11);
    }

    /** "0 if a CHOICE is RIGHT": so also without packages, and with all demands left out. */
    private static void noneIfNothingCounts() {
        due.blames("no packages", new ConflictSolve());
        ConflictSolve x = Due.withPacks(0, 1);
        x.row(1, 0, 0, 0, 63);
        due.blames("a row that can't hold, but needn't count", x);
        x.demand(0, 0, 63);
        due.blames("a demand that can't hold", x, 0);
        x.leaveOut(0, true);
        due.blames("left out", x);
    }

    /** A demand that can't be kept at all is to blame alone, whatever its number is. */
    private static void oneAlone() {
        for (int bad = 0; bad < 12; bad++) {
            ConflictSolve x = Due.withPacks(6);
            for (int i = 0; i < 12; i++) {
                x.demand(0, 0, i == bad ? 0 : 63);
            }
            due.blames("just demand " + bad, x, bad);
        }
    }

    /** "Gone through .. by number": of demands that are alike the last one stays. */
    private static void theFirstAndTheLast() {
        ConflictSolve x = Due.withPacks(6);
        for (int i = 0; i < 6; i++) {
            x.demand(0, 0, 1);
        }
        for (int i = 0; i < 6; i++) {
            x.demand(0, 0, 2);
        }
        due.blames("the last of each", x, 5, 11);
        x.leaveOut(11, true);
        due.blames("11 is out", x, 5, 10);
        x.leaveOut(5, true);
        due.blames("5 is out, too", x, 4, 10);
        for (int i = 0; i < 5; i++) {
            x.leaveOut(i, true);
        }
        due.blames("all of one are out", x);
    }

    /** What is taken away to find those to blame counts again behind it. */
    private static void itLeavesTheRest() {
        for (Supplier<ConflictSolve> scene : Scenes.small()) {
            ConflictSolve once = scene.get();
            ConflictSolve often = scene.get();
            once.blame();
            for (int i = 0; i < 20; i++) {
                often.blame();
            }
            due.same("blame() twenty times", often, once);
        }
    }
}
