/** Problems as large as the document allows, where going through all choices would take too long. */
public final class FullSizeTest {
    private static final Due due = new Due("full size");

    public static void main(String[] args) {
        lastOfAllChoices();
        moreGuestsThanRooms();
        anObjectFor512Calls();
        due.end();
    }

    private static void lastOfAllChoices() {
        ConflictSolve x = Due.withPacks(6, 6, 6, 6, 6, 6, 6, 6);
        for (int pack = 0; pack < 8; pack++) {
            x.demand(0, pack, 63);
        }
        for (int pack = 0; pack < 8; pack++) {
            for (int version = 0; version < 6; version++) {
                x.row(pack, version, 0, (pack + 3) % 8, 1 << Math.max(version - 1, 0));
            }
        }
        due.solves("every package comes down to 0", x, 0, 0, 0, 0, 0, 0, 0, 0);
        for (int pack = 0; pack < 8; pack++) {
            due.is("can(" + pack + ", 1)", x.can(pack, 1), false);
        }
    }

    private static void moreGuestsThanRooms() {
        ConflictSolve x = Due.withPacks(5, 5, 5, 5, 5, 5, 6, 6);
        for (int pack = 0; pack < 8; pack++) {
            x.demand(0, pack, 63);
        }
        for (int pack = 0; pack < 6; pack++) {
            for (int other = 0; other < pack; other++) {
                for (int version = 0; version < 5; version++) {
                    x.row(pack, version, 1, other, 1 << version);
                }
            }
        }
        due.is("six guests, five rooms", x.solve(), 0);
        due.blames("six guests, five rooms", x, 0, 1, 2, 3, 4, 5);
        x.leaveOut(2, true);
        due.solves("one guest stays away", x, 4, 3, -1, 2, 1, 0, 5, 5);
    }

    private static void anObjectFor512Calls() {
        ConflictSolve x = Due.withPacks(6, 6, 6, 6, 6, 6, 6, 6);
        int calls = 8;
        for (int i = 0; i < 12; i++, calls++) {
            x.demand(0, i % 8, 63);
        }
        for (int i = 0; i < 120; i++, calls++) {
            x.row(i % 8, i % 6, 0, (i + 1) % 8, 63);
        }
        for (; calls < 510; calls += 3) {
            due.is("call " + calls + ": solve()", x.solve(), 1);
            due.is("call " + calls + ": blame()", x.blame(), 0);
            due.is("call " + calls + ": must", x.must(calls % 8), true);
        }
    }
}
