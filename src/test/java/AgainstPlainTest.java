import java.util.Random;

/** Runs of calls, drawn from fixed seeds, each answer compared with that of Plain. */
public final class AgainstPlainTest {
    private static final Due due = new Due("against plain");
    private static final int[] ODD = {-2, -1, 6, 7, 8, 12, 31, 32, 64,
        Integer.MIN_VALUE, Integer.MAX_VALUE};

    /** What an object answers behind its 512th call is free. */
    private static final int MAX_CALLS = 512;
    private static final int CALLS_AT_ONCE = 20;

    private final ConflictSolve x = new ConflictSolve();
    private final Plain y = new Plain();
    private final Random random;
    private final long seed;
    private final boolean manyPacks;
    private int choices = 1;
    private int calls;

    private AgainstPlainTest(long seed) {
        this.seed = seed;
        this.random = new Random(seed);
        this.manyPacks = seed % 3 == 0;
    }

    public static void main(String[] args) {
        for (long seed = 0; seed < 1500; seed++) {
            new AgainstPlainTest(seed).run();
        }
        due.end();
    }

    private void run() {
        int rowsBefore = random.nextInt(random.nextInt(4) == 0 ? 125 : 25);
        int packs = 1 + random.nextInt(manyPacks ? 8 : 5);
        for (int i = 0; i < packs; i++) {
            callPack();
        }
        for (int i = 0; i < rowsBefore; i++) {
            callRow();
            callOrSometimes();
        }
        for (int i = 0; i < 60 && calls < MAX_CALLS - CALLS_AT_ONCE; i++) {
            call();
        }
    }

    private void call() {
        switch (random.nextInt(14)) {
            case 0 -> callPack();
            case 1, 2 -> callRow();
            case 3, 4 -> callDemand();
            case 5 -> callOr();
            case 6, 7 -> callLeaveOut();
            case 8 -> callLock();
            case 9, 10 -> callSolve();
            case 11 -> callBlame();
            default -> callCanAndMust();
        }
        callOrSometimes();
    }

    private void callPack() {
        int versions = odd(random.nextInt(manyPacks ? 3 : 7));
        // What Plain writes down must stay small.
        if (versions >= 0 && versions <= 6) {
            if (choices * (versions + 1) > 1500) {
                return;
            }
            choices *= versions + 1;
        }
        same("pack(" + versions + ")", x.pack(versions), y.pack(versions));
    }

    private void callRow() {
        int pack = pack();
        int version = version();
        int kind = kind();
        int other = pack();
        int set = set();
        boolean want = y.row(pack, version, kind, other, set);
        String call = "row(" + pack + ", " + version + ", " + kind + ", " + other + ", " + set + ")";
        same(call, x.row(pack, version, kind, other, set) ? 1 : 0, want ? 1 : 0);
    }

    private void callDemand() {
        int kind = kind();
        int pack = pack();
        int set = set() | (random.nextBoolean() ? set() : 0);
        int want = y.demand(kind, pack, set);
        same("demand(" + kind + ", " + pack + ", " + set + ")", x.demand(kind, pack, set), want);
    }

    private void callOrSometimes() {
        for (int i = random.nextInt(12); i < 2; i++) {
            callOr();
        }
    }

    private void callOr() {
        int pack = pack();
        int set = set();
        boolean want = y.or(pack, set);
        same("or(" + pack + ", " + set + ")", x.or(pack, set) ? 1 : 0, want ? 1 : 0);
    }

    private void callLeaveOut() {
        int demand = odd(random.nextInt(12));
        boolean out = random.nextBoolean();
        boolean want = y.leaveOut(demand, out);
        same("leaveOut(" + demand + ", " + out + ")", x.leaveOut(demand, out) ? 1 : 0, want ? 1 : 0);
    }

    private void callLock() {
        int pack = pack();
        int version = version();
        boolean want = y.lock(pack, version);
        same("lock(" + pack + ", " + version + ")", x.lock(pack, version) ? 1 : 0, want ? 1 : 0);
    }

    private void callSolve() {
        same("solve()", x.solve(), y.solve());
        for (int pack = -1; pack < 9; pack++) {
            same("chosen(" + pack + ")", x.chosen(pack), y.chosen(pack));
        }
    }

    private void callBlame() {
        same("blame()", x.blame(), y.blame());
        for (int i = -1; i < 13; i++) {
            same("blamed(" + i + ")", x.blamed(i), y.blamed(i));
        }
    }

    private void callCanAndMust() {
        int pack = pack();
        int version = version();
        same("must(" + pack + ")", x.must(pack) ? 1 : 0, y.must(pack) ? 1 : 0);
        same("can(" + pack + ", " + version + ")",
                x.can(pack, version) ? 1 : 0, y.can(pack, version) ? 1 : 0);
        same("chosen(" + pack + ")", x.chosen(pack), y.chosen(pack));
        same("blamed(0)", x.blamed(0), y.blamed(0));
    }

    private int pack() {
        return odd(random.nextInt(manyPacks ? 8 : 5));
    }

    private int version() {
        return odd(random.nextInt(8) == 0 ? -1 : random.nextInt(random.nextBoolean() ? 3 : 6));
    }

    private int kind() {
        return random.nextInt(40) == 0 ? odd(3) : random.nextBoolean() ? 0 : random.nextInt(3);
    }

    private int set() {
        int set = random.nextInt(64);
        return random.nextInt(10) == 0 ? set | random.nextInt() << 6 : set;
    }

    private int odd(int ordinary) {
        return random.nextInt(60) == 0 ? ODD[random.nextInt(ODD.length)] : ordinary;
    }

    private void same(String call, int got, int want) {
        calls++;
        due.is("seed " + seed + ": " + call, got, want);
    }
}
