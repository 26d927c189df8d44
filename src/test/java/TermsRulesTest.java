/** The second part of "Terms": rows, alternatives, demands, and when a choice is right. */
public final class TermsRulesTest {
    private static final Due due = new Due("terms: rules");

    public static void main(String[] args) {
        rowsCountIfTheChoiceGivesThat();
        aNeedHoldsByAnyOfThree();
        aConflictHoldsByNone();
        aPeerHoldsByNone();
        rowsAboutTheirOwnPackage();
        demandsAlwaysCount();
        leftOutDemandsDoNot();
        allMustHoldAtOnce();
        due.end();
    }

    /** "Of a package at a version, count if the CHOICE gives it that": not beside it, nor at NONE. */
    private static void rowsCountIfTheChoiceGivesThat() {
        for (int at = 0; at < 6; at++) {
            for (int kind = 0; kind < 3; kind++) {
                ConflictSolve x = Due.withPacks(6, 1);
                x.row(0, at, kind, 1, kind == 1 ? 1 : 0);
                x.demand(0, 1, 1);
                for (int version = -1; version < 6; version++) {
                    String call = "row(0, " + at + ", " + kind + ", ..): can(0, " + version + ")";
                    due.is(call, x.can(0, version), version != at);
                }
            }
        }
    }

    /** "One of up to three ALTERNATIVES holds": each alone, some, all, but not none. */
    private static void aNeedHoldsByAnyOfThree() {
        for (int alternatives = 1; alternatives <= 3; alternatives++) {
            for (int held = 0; held < 8; held++) {
                boolean want = (held & ((1 << alternatives) - 1)) != 0;
                String when = alternatives + " alternatives, " + held + " can hold: ";
                due.is(when + "demand", demandThatNeeds(alternatives, held).solve() == 1, want);
                due.is(when + "row", rowThatNeeds(alternatives, held).can(3, 0), want);
            }
        }
    }

    private static ConflictSolve demandThatNeeds(int alternatives, int held) {
        ConflictSolve x = packsOfWhichCan(held);
        x.demand(0, 0, 2);
        addAlternatives(x, alternatives);
        return x;
    }

    private static ConflictSolve rowThatNeeds(int alternatives, int held) {
        ConflictSolve x = packsOfWhichCan(held);
        x.row(3, 0, 0, 0, 2);
        addAlternatives(x, alternatives);
        return x;
    }

    private static ConflictSolve packsOfWhichCan(int held) {
        ConflictSolve x = Due.withPacks(3, 3, 3, 1);
        for (int pack = 0; pack < 3; pack++) {
            if ((held >> pack & 1) == 0) {
                x.demand(1, pack, 2);
            }
        }
        return x;
    }

    private static void addAlternatives(ConflictSolve x, int alternatives) {
        for (int pack = 1; pack < alternatives; pack++) {
            x.or(pack, 2);
        }
    }

    /** "CONFLICT: a package has no version of a SET": NONE is none, and an empty SET has none. */
    private static void aConflictHoldsByNone() {
        ConflictSolve x = Due.withPacks(6);
        x.demand(1, 0, 0);
        for (int version = -1; version < 6; version++) {
            due.is("conflict with an empty set: " + version, x.can(0, version), true);
        }
        x.demand(1, 0, 63);
        for (int version = 0; version < 6; version++) {
            due.is("conflict with all versions: " + version, x.can(0, version), false);
        }
        due.is("conflict with all versions: NONE", x.can(0, -1), true);
    }

    /** "PEER: a package has a version of a SET, or NONE": NONE alone if the SET is empty. */
    private static void aPeerHoldsByNone() {
        ConflictSolve x = Due.withPacks(6);
        x.demand(2, 0, 63);
        for (int version = -1; version < 6; version++) {
            due.is("peer of all versions: " + version, x.can(0, version), true);
        }
        x.demand(2, 0, 0);
        for (int version = 0; version < 6; version++) {
            due.is("peer of an empty set: " + version, x.can(0, version), false);
        }
        due.is("peer of an empty set: NONE", x.can(0, -1), true);
    }

    /** "Of another package (or the same)": with its version in the SET, and not. */
    private static void rowsAboutTheirOwnPackage() {
        for (int at = 0; at < 6; at++) {
            for (int kind = 0; kind < 3; kind++) {
                ConflictSolve in = Due.withPacks(6);
                in.row(0, at, kind, 0, 1 << at);
                ConflictSolve notIn = Due.withPacks(6);
                notIn.row(0, at, kind, 0, 63 & ~(1 << at));
                for (int version = -1; version < 6; version++) {
                    boolean free = version != at;
                    String call = "row(0, " + at + ", " + kind + ", 0, ..): can(0, " + version + ")";
                    due.is(call + ", in the set", in.can(0, version), free || kind != 1);
                    due.is(call + ", not in the set", notIn.can(0, version), free || kind == 1);
                }
            }
        }
    }

    /** "DEMANDS .. are the same, always counting": whatever the choice gives. */
    private static void demandsAlwaysCount() {
        for (int kind = 0; kind < 3; kind++) {
            ConflictSolve x = Due.withPacks(6, 6);
            x.demand(kind, 1, kind == 1 ? 63 : 0);
            for (int version = -1; version < 6; version++) {
                due.is("demand of kind " + kind + ": can(0, " + version + ")",
                        x.can(0, version), kind != 0);
                due.is("demand of kind " + kind + ": can(1, " + version + ")",
                        x.can(1, version), kind != 0 && version == -1);
            }
        }
    }

    /** "Unless they are LEFT OUT": of every kind, in every question. */
    private static void leftOutDemandsDoNot() {
        for (int kind = 0; kind < 3; kind++) {
            ConflictSolve x = Due.withPacks(2);
            x.demand(1, 0, 0);
            x.demand(kind, 0, kind == 1 ? 3 : 0);
            due.is("kind " + kind + " counts: can(0, 1)", x.can(0, 1), false);
            x.leaveOut(1, true);
            due.is("kind " + kind + " is out: can(0, 1)", x.can(0, 1), true);
            due.is("kind " + kind + " is out: can(0, NONE)", x.can(0, -1), true);
            due.is("kind " + kind + " is out: must(0)", x.must(0), false);
            due.is("kind " + kind + " is out: solve()", x.solve(), 1);
            due.blames("kind " + kind + " is out", x);
            x.leaveOut(1, false);
            due.is("kind " + kind + " counts again: can(0, 1)", x.can(0, 1), false);
        }
    }

    /** "RIGHT, if all rows that count and all DEMANDS that aren't LEFT OUT hold": the first, the last. */
    private static void allMustHoldAtOnce() {
        for (int bad = 0; bad < 120; bad++) {
            ConflictSolve x = Due.withPacks(1, 1);
            for (int i = 0; i < 120; i++) {
                x.row(0, 0, 0, 1, i == bad ? 0 : 1);
            }
            due.is("only row " + bad + " can't hold", x.can(0, 0), false);
            due.is("only row " + bad + " can't hold, nor need it", x.solve(), 1);
        }
        for (int bad = 0; bad < 12; bad++) {
            ConflictSolve x = Due.withPacks(1);
            for (int i = 0; i < 12; i++) {
                x.demand(0, 0, i == bad ? 0 : 1);
            }
            due.is("only demand " + bad + " can't hold", x.solve(), 0);
            x.leaveOut(bad, true);
            due.solves("it is left out", x, 0);
        }
    }
}
