import java.util.function.Supplier;

public final class Promise11BlamedTest {
    private static final Due due = new Due("promise 11");

    public static void main(String[] args) {
        itIsThatOfTheLatestBlame();
        noSuchIndex();
        noneBeforeAnyBlame();
        noneBehindTheLast();
        noneIfTheLatestWasZero();
        eachOtherCallLeavesIt();
        due.end();
    }

    private static void itIsThatOfTheLatestBlame() {
        ConflictSolve x = Due.withPacks(2, 2);
        due.blamed("before any blame()", x);
        x.demand(2, 1, 1);
        x.demand(0, 0, 1);
        x.demand(2, 1, 1);
        x.demand(0, 0, 2);
        x.solve();
        due.blamed("solve() finds none to blame", x);
        due.blames("1 and 3", x, 1, 3);
        x.leaveOut(3, true);
        due.blamed("until the next blame()", x, 1, 3);
        x.solve();
        x.can(0, 0);
        x.must(0);
        x.demand(0, 0, 0);
        due.blamed("still until the next blame()", x, 1, 3);
        due.blames("the new one", x, 4);
        x.leaveOut(4, true);
        due.blames("none", x);
        x.leaveOut(3, false);
        due.blamed("none until the next blame()", x);
        due.blames("1 and 3 again", x, 1, 3);
    }

    private static void noSuchIndex() {
        ConflictSolve x = Due.withPacks(2);
        x.demand(0, 0, 0);
        due.blames("demand 0", x, 0);
        int[] none = {-1, 1, 2, 11, 12, 32, Integer.MIN_VALUE, Integer.MAX_VALUE};
        for (int i : none) {
            due.is("blamed(" + i + ")", x.blamed(i), -1);
        }
    }

    /** "The latest blame()": there may have been none yet. */
    private static void noneBeforeAnyBlame() {
        ConflictSolve x = Due.withPacks(1);
        x.demand(0, 0, 0);
        x.solve();
        due.blamed("solve() was 0, but no blame() yet", x);
    }

    /** "NONE if there is none such": below 0, behind the last, and where a count would wrap. */
    private static void noneBehindTheLast() {
        for (int count = 0; count <= 6; count++) {
            int blamed = count;
            Supplier<ConflictSolve> scene = () -> blaming(blamed);
            due.blamed(count + " to blame", scene.get(), firstNumbers(count));
            for (int i : Due.outside(0, count - 1)) {
                due.refuses(count + " to blame: blamed(" + i + ")", scene, x -> x.blamed(i), -1);
            }
        }
    }

    /** One demand wants a version of so many less one; each of the others takes one of them away. */
    private static ConflictSolve blaming(int count) {
        ConflictSolve x = Due.withPacks(6);
        for (int version = 0; version < count - 1; version++) {
            x.demand(1, 0, 1 << version);
        }
        if (count > 0) {
            x.demand(0, 0, (1 << (count - 1)) - 1);
        }
        due.is("blame()", x.blame(), count);
        return x;
    }

    private static int[] firstNumbers(int count) {
        int[] all = new int[count];
        for (int i = 0; i < count; i++) {
            all[i] = i;
        }
        return all;
    }

    /** "That were to BLAME in the latest blame()": none if it was 0, though one before wasn't. */
    private static void noneIfTheLatestWasZero() {
        ConflictSolve x = blaming(4);
        x.leaveOut(3, true);
        due.blamed("the latest was 4", x, 0, 1, 2, 3);
        due.blames("0 by now", x);
        x.leaveOut(3, false);
        due.is("solve()", x.solve(), 0);
        due.blamed("the latest was 0", x);
    }

    /** "In the latest blame()": no other call, taken or refused, changes what it found. */
    private static void eachOtherCallLeavesIt() {
        ConflictSolve x = blaming(3);
        x.pack(2);
        due.blamed("behind pack()", x, 0, 1, 2);
        x.row(0, 2, 0, 1, 0);
        due.blamed("behind row()", x, 0, 1, 2);
        x.or(1, 2);
        due.blamed("behind or() of a row", x, 0, 1, 2);
        x.demand(0, 1, 0);
        due.blamed("behind demand()", x, 0, 1, 2);
        x.or(1, 1);
        due.blamed("behind or() of a demand", x, 0, 1, 2);
        x.leaveOut(2, true);
        due.blamed("behind leaveOut()", x, 0, 1, 2);
        x.lock(0, 1);
        due.blamed("behind lock()", x, 0, 1, 2);
        due.is("solve()", x.solve(), 1);
        due.blamed("behind solve()", x, 0, 1, 2);
        x.chosen(0);
        x.can(0, 1);
        due.blamed("behind can()", x, 0, 1, 2);
        x.must(0);
        due.blamed("behind must()", x, 0, 1, 2);
        x.pack(7);
        x.row(2, 0, 0, 0, 0);
        x.demand(3, 0, 0);
        x.or(2, 1);
        x.leaveOut(4, true);
        x.lock(2, 0);
        due.blamed("behind refused calls", x, 0, 1, 2);
        due.blames("0 by now", x);
    }
}
