import java.util.List;
import java.util.Set;
import java.util.TreeSet;
import java.util.function.Supplier;
import java.util.function.ToIntFunction;

/** Counts and prints the answers of a test that are not as due. */
final class Due {
    private final String test;
    private int wrong;

    Due(String test) {
        this.test = test;
    }

    void is(String call, long got, long want) {
        if (got != want) {
            wrong++;
            System.out.println(test + ": " + call + " answered " + got + ", due is " + want);
        }
    }

    void is(String call, boolean got, boolean want) {
        is(call, got ? 1L : 0L, want ? 1L : 0L);
    }

    /** Solves, and compares what is chosen for the packages from 0 on. */
    void solves(String when, ConflictSolve x, int... want) {
        is(when + ": solve()", x.solve(), 1);
        chosen(when, x, want);
    }

    void chosen(String when, ConflictSolve x, int... want) {
        for (int pack = 0; pack < want.length; pack++) {
            is(when + ": chosen(" + pack + ")", x.chosen(pack), want[pack]);
        }
    }

    /** Asks for the demands to blame, and compares all of them. */
    void blames(String when, ConflictSolve x, int... want) {
        is(when + ": blame()", x.blame(), want.length);
        blamed(when, x, want);
    }

    void blamed(String when, ConflictSolve x, int... want) {
        for (int i = 0; i < want.length; i++) {
            is(when + ": blamed(" + i + ")", x.blamed(i), want[i]);
        }
        for (int i = want.length; i < 14; i++) {
            is(when + ": blamed(" + i + ")", x.blamed(i), ConflictSolve.NONE);
        }
    }

    /** The call is answered as a refused one is, and all answers after it are as without it. */
    void refuses(String call, Supplier<ConflictSolve> scene, ToIntFunction<ConflictSolve> ask, int want) {
        ConflictSolve asked = scene.get();
        is(call, ask.applyAsInt(asked), want);
        same(call + ", refused, changes nothing", asked, scene.get());
    }

    /** Both objects answer everything alike from now on; neither is of use behind this. */
    void same(String when, ConflictSolve one, ConflictSolve other) {
        List<String> got = Answers.of(one);
        List<String> want = Answers.of(other);
        for (int i = 0; i < Math.max(got.size(), want.size()); i++) {
            String is = i < got.size() ? got.get(i) : "nothing";
            String due = i < want.size() ? want.get(i) : "nothing";
            if (!is.equals(due)) {
                wrong++;
                System.out.println(test + ": " + when + ": got " + is + ", due is " + due);
                return;
            }
        }
    }

    void end() {
        if (wrong != 0) {
            System.exit(1);
        }
    }

    static ConflictSolve withPacks(int... versions) {
        ConflictSolve x = new ConflictSolve();
        for (int count : versions) {
            x.pack(count);
        }
        return x;
    }

    /** Numbers not from low to high: those beside it, the farthest, and those that wrap into it. */
    static int[] outside(int low, int high) {
        Set<Integer> all = new TreeSet<>();
        for (int near = 1; near <= 3; near++) {
            all.add(low - near);
            all.add(high + near);
            all.add(Integer.MIN_VALUE + near - 1);
            all.add(Integer.MAX_VALUE - near + 1);
        }
        for (int shift = 3; shift < 32; shift++) {
            for (int inside = low; inside <= high; inside++) {
                all.add(inside + (1 << shift));
                all.add(inside - (1 << shift));
            }
        }
        all.removeIf(number -> number >= low && number <= high);
        return all.stream().mapToInt(Integer::intValue).toArray();
    }
}
