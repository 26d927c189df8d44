/**
 * Versions of packages chosen so that every demand is kept.
 *
 * Inside, a PLACE is one thing that a package can be given: one of its versions, or NONE. Each
 * package has eight bits of a long, one for each of its places, so a choice is a long with one
 * place of every package. A row or a demand is a RULE: the long of all places that keep it, so
 * that a choice keeps it if they share a place, and an alternative more is only more bits.
 * Packages that aren't there yet have the place NONE alone, so that every choice has eight.
 */
public final class ConflictSolve {
    public static final int NONE = -1;

    private static final int MAX_PACKS = 8;
    private static final int MAX_VERSIONS = 6;
    private static final int MAX_ROWS = 120;
    private static final int MAX_DEMANDS = 12;
    private static final int MAX_ALTERNATIVES = 3;

    private static final int NEED = 0;
    private static final int CONFLICT = 1;
    private static final int PEER = 2;

    private static final int BITS_A_PACK = 8;
    private static final long ALL_VERSIONS = 63L;
    private static final long NO_VERSION = 64L;
    private static final long NO_VERSION_OF_ANY = 0x4040404040404040L;
    private static final long NOTHING = 0L;

    /** The locked version, then the six versions and NONE. */
    private static final int RANKS = 8;

    /** A round that is not the last takes away one of 56 places or more. */
    private static final int MAX_ROUNDS = 64;

    private final long[] rowRules = new long[MAX_ROWS];
    private final long[] demandRules = new long[MAX_DEMANDS];

    /** All packages, also those to come, as they stand in the ORDER. */
    private final int[] order = new int[MAX_PACKS];

    private int packs;
    private int rows;
    private int demands;

    /** How many packages, the first ones of the order, a demand needs. */
    private int neededPacks;

    /** The places of all packages. */
    private long places = NO_VERSION_OF_ANY;

    /** The places of the locked versions. */
    private long locked;

    /** A bit for each demand that is left out. */
    private int leftOut;

    /** How many alternatives the latest rule may still get: none if it is no need. */
    private int alternativesFree;

    private boolean latestIsDemand;

    /** The choice of the latest solve(), or NOTHING. */
    private long picked;

    /** A bit for each demand that the latest blame() found. */
    private int toBlame;

    public ConflictSolve() {
        for (int i = 0; i < MAX_PACKS; i++) {
            order[i] = i;
        }
    }

    public int pack(int versions) {
        if (packs >= MAX_PACKS || versions < 0 || versions > MAX_VERSIONS) {
            return NONE;
        }
        int made = packs;
        places |= versionsOf(made, (1 << versions) - 1);
        packs++;
        return made;
    }

    public boolean row(int pack, int version, int kind, int other, int set) {
        if (rows >= MAX_ROWS || !hasVersion(pack, version) || !isKind(kind) || !hasPack(other)) {
            return false;
        }
        // A row doesn't count where its package has another place: that keeps it, too.
        long notCounting = allOf(pack) & ~placeOf(pack, version);
        rowRules[rows] = notCounting | keeping(kind, other, set);
        rows++;
        startAlternatives(kind, false);
        return true;
    }

    public int demand(int kind, int pack, int set) {
        if (demands >= MAX_DEMANDS || !isKind(kind) || !hasPack(pack)) {
            return NONE;
        }
        int made = demands;
        demandRules[made] = keeping(kind, pack, set);
        demands++;
        startAlternatives(kind, true);
        if (kind == NEED) {
            moveToNeeded(pack);
        }
        return made;
    }

    public boolean or(int pack, int set) {
        if (alternativesFree <= 0 || !hasPack(pack)) {
            return false;
        }
        alternativesFree--;
        if (latestIsDemand) {
            addToLatestDemand(pack, set);
        } else {
            addToLatestRow(pack, set);
        }
        return true;
    }

    public boolean leaveOut(int demand, boolean out) {
        if (demand < 0 || demand >= demands) {
            return false;
        }
        int bit = 1 << demand;
        boolean isOut = (leftOut & bit) != 0;
        if (isOut == out) {
            return false;
        }
        leftOut ^= bit;
        return true;
    }

    public boolean lock(int pack, int version) {
        if (!hasPlace(pack, version)) {
            return false;
        }
        locked &= ~allOf(pack);
        if (version != NONE) {
            locked |= placeOf(pack, version);
        }
        return true;
    }

    public int solve() {
        picked = firstWithin(places, demandsThatCount(), 0);
        return picked == NOTHING ? 0 : 1;
    }

    public int chosen(int pack) {
        if (!hasPack(pack)) {
            return NONE;
        }
        for (int version = 0; version < MAX_VERSIONS; version++) {
            if ((picked & placeOf(pack, version)) != NOTHING) {
                return version;
            }
        }
        return NONE;
    }

    public int blame() {
        int kept = demandsThatCount();
        toBlame = 0;
        if (someRightKeeps(kept)) {
            return 0;
        }
        for (int i = 0; i < demands; i++) {
            int without = kept & ~(1 << i);
            if (without != kept && !someRightKeeps(without)) {
                kept = without;
            }
        }
        toBlame = kept;
        return Integer.bitCount(kept);
    }

    public int blamed(int i) {
        int before = 0;
        for (int demand = 0; demand < MAX_DEMANDS; demand++) {
            if ((toBlame & (1 << demand)) != 0) {
                if (before == i) {
                    return demand;
                }
                before++;
            }
        }
        return NONE;
    }

    public boolean can(int pack, int version) {
        return hasPlace(pack, version) && someRightGives(pack, version);
    }

    public boolean must(int pack) {
        return hasPack(pack) && !someRightGives(pack, NONE);
    }

    private boolean hasPack(int pack) {
        return pack >= 0 && pack < packs;
    }

    private boolean hasVersion(int pack, int version) {
        return hasPack(pack) && version >= 0 && version < MAX_VERSIONS
                && (places & placeOf(pack, version)) != NOTHING;
    }

    private boolean hasPlace(int pack, int version) {
        return version == NONE ? hasPack(pack) : hasVersion(pack, version);
    }

    private static boolean isKind(int kind) {
        return kind == NEED || kind == CONFLICT || kind == PEER;
    }

    private static long allOf(int pack) {
        return (ALL_VERSIONS | NO_VERSION) << (pack * BITS_A_PACK);
    }

    private static long noneOf(int pack) {
        return NO_VERSION << (pack * BITS_A_PACK);
    }

    private static long versionsOf(int pack, int set) {
        return (set & ALL_VERSIONS) << (pack * BITS_A_PACK);
    }

    private static long placeOf(int pack, int version) {
        return version == NONE ? noneOf(pack) : versionsOf(pack, 1 << version);
    }

    /** The places of a package that keep a rule of this kind. */
    private static long keeping(int kind, int pack, int set) {
        long inSet = versionsOf(pack, set);
        if (kind == CONFLICT) {
            return allOf(pack) & ~inSet;
        }
        return kind == PEER ? inSet | noneOf(pack) : inSet;
    }

    private void startAlternatives(int kind, boolean isDemand) {
        alternativesFree = kind == NEED ? MAX_ALTERNATIVES - 1 : 0;
        latestIsDemand = isDemand;
    }

    private void addToLatestDemand(int pack, int set) {
        if (demands > 0) {
            demandRules[demands - 1] |= versionsOf(pack, set);
            moveToNeeded(pack);
        }
    }

    private void addToLatestRow(int pack, int set) {
        if (rows > 0) {
            rowRules[rows - 1] |= versionsOf(pack, set);
        }
    }

    /**
     * Only the latest demand gets alternatives, so packages come here in the ORDER itself: one
     * that is new here goes behind those that came before it, and the others stay by number.
     */
    private void moveToNeeded(int pack) {
        int at = positionOf(pack);
        if (at < neededPacks || at >= MAX_PACKS) {
            return;
        }
        for (int i = at; i > neededPacks; i--) {
            order[i] = order[i - 1];
        }
        order[neededPacks] = pack;
        neededPacks++;
    }

    private int positionOf(int pack) {
        for (int i = 0; i < MAX_PACKS; i++) {
            if (order[i] == pack) {
                return i;
            }
        }
        return MAX_PACKS;
    }

    private int demandsThatCount() {
        return ((1 << demands) - 1) & ~leftOut;
    }

    private boolean someRightGives(int pack, int version) {
        long given = (places & ~allOf(pack)) | placeOf(pack, version);
        return firstWithin(given, demandsThatCount(), 0) != NOTHING;
    }

    private boolean someRightKeeps(int kept) {
        return firstWithin(places, kept, 0) != NOTHING;
    }

    /** The first right choice among these places, packages before this depth being settled. */
    private long firstWithin(long within, int kept, int depth) {
        long left = narrow(within, kept);
        return left == NOTHING ? NOTHING : firstOf(left, kept, depth);
    }

    private long firstOf(long narrowed, int kept, int depth) {
        if (depth < 0 || depth >= MAX_PACKS) {
            return narrowed;
        }
        int pack = order[depth];
        boolean needed = depth < neededPacks;
        long left = narrowed;
        for (int rank = 0; rank < RANKS; rank++) {
            long place = left & placeAt(rank, pack, needed);
            if (place != NOTHING) {
                long found = firstWithin((left & ~allOf(pack)) | place, kept, depth + 1);
                if (found != NOTHING) {
                    return found;
                }
                // So that a locked version isn't tried again at its ordinary rank.
                left &= ~place;
            }
        }
        return NOTHING;
    }

    /** The place of a package at a rank, 0 being the best; NOTHING at 0 if it isn't locked. */
    private long placeAt(int rank, int pack, boolean needed) {
        if (rank == 0) {
            return locked & allOf(pack);
        }
        if (needed) {
            // Behind version 0 this comes to -1, which is NONE.
            return placeOf(pack, MAX_VERSIONS - rank);
        }
        return rank == 1 ? noneOf(pack) : placeOf(pack, MAX_VERSIONS + 1 - rank);
    }

    /** Takes away places that no right choice can have, as far as single rules show it. */
    private long narrow(long within, int kept) {
        long left = within;
        for (int round = 0; round < MAX_ROUNDS; round++) {
            long before = left;
            for (int i = 0; i < rows && left != NOTHING; i++) {
                left = narrowByRule(left, rowRules[i]);
            }
            for (int i = 0; i < demands && left != NOTHING; i++) {
                if ((kept & (1 << i)) != 0) {
                    left = narrowByRule(left, demandRules[i]);
                }
            }
            if (left == before) {
                return left;
            }
        }
        return left;
    }

    /** If just one package can still keep the rule, it must: its other places go. */
    private static long narrowByRule(long left, long rule) {
        long able = left & rule;
        if (able == NOTHING) {
            return NOTHING;
        }
        int bitsBelow = Long.bitCount((able & -able) - 1);
        long ofLowestPack = allOf(bitsBelow / BITS_A_PACK);
        boolean onePack = (able & ~ofLowestPack) == NOTHING;
        return onePack ? (left & ~ofLowestPack) | able : left;
    }
}
