/** Problems as large as the document allows, where going through all choices would take too long. */
public final class FullSizeTest {
    private static final Due due = new Due("full size");

    public static void main(String[] args) {
        lastOfAllChoices();
        moreGuestsThanRooms();
        anObjectFor512Calls();
        the512thCall();
        due.end();
    }

    private static void lastOfAllChoices() {
        ConflictSolve x = Due.withPacks(6, 6, 6, 6, 6, 6, 6, 6);
        for (int pack = 0; pack < 8; pack++) {
            x.demand(0, pack, 63);
        }
        for (int pack = 0; pack < 8; pack++) {
            for (int version = 0; version < 6; version++) {
                x.row(pack, version, 0, (pack + 3) % 8, 1 << Math.max(version - 1, 0));
            }
        }
        due.solves("every package comes down to 0", x, 0, 0, 0, 0, 0, 0, 0, 0);
        for (int pack = 0; pack < 8; pack++) {
            due.is("can(" + pack + ", 1)", x.can(pack, 1), false);
        }
    }

    private static void moreGuestsThanRooms() {
        ConflictSolve x = Due.withPacks(5, 5, 5, 5, 5, 5, 6, 6);
        for (int pack = 0; pack < 8; pack++) {
            x.demand(0, pack, 63);
        }
        for (int pack = 0; pack < 6; pack++) {
            for (int other = 0; other < pack; other++) {
                for (int version = 0; version < 5; version++) {
                    x.row(pack, version, 1, other, 1 << version);
                }
            }
        }
        due.is("six guests, five rooms", x.solve(), 0);
        due.blames("six guests, five rooms", x, 0, 1, 2, 3, 4, 5);
        x.leaveOut(2, true);
        due.solves("one guest stays away", x, 4, 3, -1, 2, 1, 0, 5, 5);
    }

    /** "An object is used for at most 512 calls": the 512th is answered like those before it. */
    private static void anObjectFor512Calls() {
        ConflictSolve x = Due.withPacks(6, 6, 6, 6, 6, 6, 6, 6);
        int calls = 8;
        for (int i = 0; i < 12; i++, calls++) {
            due.is("demand " + i, x.demand(0, i % 8, 63), i);
        }
        for (int i = 0; i < 120; i++, calls++) {
            due.is("row " + i, x.row(i % 8, i % 6, 0, (i + 1) % 8, 63), true);
        }
        for (; calls < 500; calls += 3) {
            due.is("call " + calls + ": solve()", x.solve(), 1);
            due.is("call " + calls + ": blame()", x.blame(), 0);
            due.is("call " + calls + ": must", x.must(calls % 8), true);
        }
        for (; calls < 512; calls++) {
            due.is("call " + calls + ": can", x.can(calls % 8, calls % 6), true);
        }
    }

    /** Each call could be the 512th. */
    private static void the512thCall() {
        due.is("512th: pack", behind511Calls().pack(1), 2);
        due.is("512th: row", behind511Calls().row(0, 0, 1, 1, 1), true);
        due.is("512th: demand", behind511Calls().demand(0, 0, 1), 2);
        due.is("512th: or", behind511Calls().or(0, 1), true);
        due.is("512th: leaveOut", behind511Calls().leaveOut(0, true), true);
        due.is("512th: lock", behind511Calls().lock(0, 1), true);
        due.is("512th: solve", behind511Calls().solve(), 0);
        due.is("512th: chosen", behind511Calls().chosen(0), 1);
        due.is("512th: blame", behind511Calls().blame(), 1);
        due.is("512th: blamed", behind511Calls().blamed(0), 1);
        due.is("512th: can", behind511Calls().can(0, -1), false);
        due.is("512th: must", behind511Calls().must(1), true);
    }

    private static ConflictSolve behind511Calls() {
        ConflictSolve x = Due.withPacks(2, 2);
        x.demand(0, 0, 3);
        x.solve();
        x.demand(0, 0, 0);
        x.blame();
        for (int calls = 6; calls < 511; calls++) {
            x.must(0);
        }
        return x;
    }
}
