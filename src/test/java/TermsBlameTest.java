/** The last part of "Terms": which demands are to BLAME. */
public final class TermsBlameTest {
    private static final Due due = new Due("terms: blame");

    public static void main(String[] args) {
        noneIfAChoiceIsRight();
        leftOutOnesAreNoneOfThem();
        byNumber();
        withoutThoseTakenAwayBefore();
        onlyDemandsAreTakenAway();
        everyTwoOfTwelve();
        everySetOfThree();
        due.end();
    }

    /** "If no CHOICE is RIGHT": otherwise none is to blame. */
    private static void noneIfAChoiceIsRight() {
        ConflictSolve x = Due.withPacks(6);
        for (int i = 0; i < 12; i++) {
            x.demand(0, 0, 32);
            due.blames((i + 1) + " demands that agree", x);
        }
    }

    /** "The DEMANDS that aren't LEFT OUT": one that is can't be to blame, nor helps another. */
    private static void leftOutOnesAreNoneOfThem() {
        ConflictSolve x = Due.withPacks(2);
        x.demand(0, 0, 1);
        x.demand(0, 0, 2);
        x.demand(1, 0, 1);
        due.blames("all count", x, 0, 2);
        x.leaveOut(2, true);
        due.blames("2 is out", x, 0, 1);
        x.leaveOut(1, true);
        due.blames("1 and 2 are out", x);
        x.leaveOut(2, false);
        due.blames("1 is out", x, 0, 2);
        x.leaveOut(0, true);
        due.blames("0 and 1 are out", x);
    }

    /** "By number, are gone through once": the earlier of two that would do is taken away. */
    private static void byNumber() {
        ConflictSolve x = Due.withPacks(6);
        x.demand(0, 0, 1);
        x.demand(0, 0, 2);
        x.demand(0, 0, 4);
        x.demand(0, 0, 8);
        due.blames("the last two that differ", x, 2, 3);
        x.demand(0, 0, 63);
        due.blames("one that is in nobody's way is taken away", x, 2, 3);
        x.demand(0, 0, 0);
        due.blames("one that is enough alone", x, 5);
    }

    /** "Without it (and those taken away before)": one that could go alone stays if another went. */
    private static void withoutThoseTakenAwayBefore() {
        ConflictSolve x = Due.withPacks(2, 2);
        x.demand(0, 0, 1);
        x.demand(0, 1, 1);
        x.demand(1, 0, 1);
        x.demand(1, 1, 1);
        due.blames("two quarrels, the later one is left", x, 1, 3);
        x.leaveOut(3, true);
        due.blames("one quarrel", x, 0, 2);

        ConflictSolve y = Due.withPacks(3);
        y.demand(1, 0, 1);
        y.demand(1, 0, 1);
        y.demand(0, 0, 1);
        due.blames("0 could go and so could 1", y, 1, 2);
    }

    /** Rows and locks are no demands: they stay, and are never told. */
    private static void onlyDemandsAreTakenAway() {
        ConflictSolve x = Due.withPacks(1, 1);
        x.row(0, 0, 0, 1, 1);
        x.row(1, 0, 1, 0, 1);
        x.lock(0, 0);
        x.lock(1, 0);
        due.blames("rows and locks alone", x);
        x.demand(2, 1, 0);
        due.blames("a demand that holds", x);
        x.demand(0, 0, 1);
        due.blames("a demand that the rows rule out", x, 1);
    }

    private static void everyTwoOfTwelve() {
        for (int one = 0; one < 12; one++) {
            for (int other = one + 1; other < 12; other++) {
                ConflictSolve x = Due.withPacks(6, 2);
                for (int i = 0; i < 12; i++) {
                    x.demand(i % 3, i == one || i == other ? 1 : 0, setOf(i % 3, i == one));
                }
                boolean agree = one % 3 != 0 && other % 3 != 0;
                String when = one + " and " + other;
                if (agree) {
                    due.blames(when + " leave NONE", x);
                } else {
                    due.blames(when, x, one, other);
                }
            }
        }
    }

    /** The first of the two lets 0 alone be, of versions 0 and 1, the other 1 alone. */
    private static int setOf(int kind, boolean first) {
        int kept = first ? 1 : 2;
        return kind == 1 ? 3 & ~kept : kept | 60;
    }

    /** One package, demands that are NEEDS of any three sets: told as the document tells it. */
    private static void everySetOfThree() {
        for (int a = 0; a < 8; a++) {
            for (int b = 0; b < 8; b++) {
                for (int c = 0; c < 8; c++) {
                    ConflictSolve x = Due.withPacks(3);
                    x.demand(0, 0, a);
                    x.demand(0, 0, b);
                    x.demand(0, 0, c);
                    due.blames("needs of " + a + ", " + b + ", " + c, x, blameOf(new int[] {a, b, c}));
                }
            }
        }
    }

    private static int[] blameOf(int[] sets) {
        boolean[] away = new boolean[sets.length];
        if (shared(sets, away) != 0) {
            return new int[0];
        }
        int stay = sets.length;
        for (int i = 0; i < sets.length; i++) {
            away[i] = true;
            if (shared(sets, away) == 0) {
                stay--;
            } else {
                away[i] = false;
            }
        }
        int[] blamed = new int[stay];
        int at = 0;
        for (int i = 0; i < sets.length; i++) {
            if (!away[i]) {
                blamed[at++] = i;
            }
        }
        return blamed;
    }

    /** Bit 3 is NONE, which is right when no demand counts. */
    private static int shared(int[] sets, boolean[] away) {
        int all = 15;
        for (int i = 0; i < sets.length; i++) {
            if (!away[i]) {
                all &= sets[i];
            }
        }
        return all;
    }
}
