/** Counts and prints the answers of a test that are not as due. */
final class Due {
    private final String test;
    private int wrong;

    Due(String test) {
        this.test = test;
    }

    void is(String call, long got, long want) {
        if (got != want) {
            wrong++;
            System.out.println(test + ": " + call + " answered " + got + ", due is " + want);
        }
    }

    void is(String call, boolean got, boolean want) {
        is(call, got ? 1L : 0L, want ? 1L : 0L);
    }

    /** Solves, and compares what is chosen for the packages from 0 on. */
    void solves(String when, ConflictSolve x, int... want) {
        is(when + ": solve()", x.solve(), 1);
        chosen(when, x, want);
    }

    void chosen(String when, ConflictSolve x, int... want) {
        for (int pack = 0; pack < want.length; pack++) {
            is(when + ": chosen(" + pack + ")", x.chosen(pack), want[pack]);
        }
    }

    /** Asks for the demands to blame, and compares all of them. */
    void blames(String when, ConflictSolve x, int... want) {
        is(when + ": blame()", x.blame(), want.length);
        blamed(when, x, want);
    }

    void blamed(String when, ConflictSolve x, int... want) {
        for (int i = 0; i < want.length; i++) {
            is(when + ": blamed(" + i + ")", x.blamed(i), want[i]);
        }
        for (int i = want.length; i < 14; i++) {
            is(when + ": blamed(" + i + ")", x.blamed(i), ConflictSolve.NONE);
        }
    }

    void end() {
        if (wrong != 0) {
            System.exit(1);
        }
    }

    static ConflictSolve withPacks(int... versions) {
        ConflictSolve x = new ConflictSolve();
        for (int count : versions) {
            x.pack(count);
        }
        return x;
    }
}
