import java.util.ArrayList;
import java.util.Arrays;
import java.util.List;

/**
 * The document's words told as plainly as they go, as an answer to compare with: every choice is
 * written down and looked at. Only for problems with few choices.
 */
final class Plain {
    private static final int NONE = -1;

    private static final class Rule {
        final int pack;
        final int version;
        final int kind;
        final List<int[]> alternatives = new ArrayList<>();
        boolean out;

        Rule(int pack, int version, int kind, int other, int set) {
            this.pack = pack;
            this.version = version;
            this.kind = kind;
            alternatives.add(new int[] {other, set});
        }
    }

    private final List<Integer> versions = new ArrayList<>();
    private final List<Integer> locks = new ArrayList<>();
    private final List<Rule> rows = new ArrayList<>();
    private final List<Rule> demands = new ArrayList<>();
    private Rule latest;
    private int[] chosen;
    private List<Integer> blamed = List.of();

    int pack(int count) {
        if (versions.size() == 8 || count < 0 || count > 6) {
            return NONE;
        }
        versions.add(count);
        locks.add(NONE);
        return versions.size() - 1;
    }

    boolean row(int pack, int version, int kind, int other, int set) {
        if (!isPack(pack) || !isVersion(pack, version) || kind < 0 || kind > 2 || !isPack(other)
                || rows.size() == 120) {
            return false;
        }
        latest = new Rule(pack, version, kind, other, set);
        rows.add(latest);
        return true;
    }

    int demand(int kind, int pack, int set) {
        if (kind < 0 || kind > 2 || !isPack(pack) || demands.size() == 12) {
            return NONE;
        }
        latest = new Rule(NONE, NONE, kind, pack, set);
        demands.add(latest);
        return demands.size() - 1;
    }

    boolean or(int pack, int set) {
        if (latest == null || latest.kind != 0 || latest.alternatives.size() == 3 || !isPack(pack)) {
            return false;
        }
        latest.alternatives.add(new int[] {pack, set});
        return true;
    }

    boolean leaveOut(int demand, boolean out) {
        if (demand < 0 || demand >= demands.size() || demands.get(demand).out == out) {
            return false;
        }
        demands.get(demand).out = out;
        return true;
    }

    boolean lock(int pack, int version) {
        if (!isPack(pack) || version != NONE && !isVersion(pack, version)) {
            return false;
        }
        locks.set(pack, version);
        return true;
    }

    int solve() {
        chosen = null;
        for (int[] choice : rightChoices(counting())) {
            if (chosen == null || isBetter(choice, chosen)) {
                chosen = choice;
            }
        }
        return chosen == null ? 0 : 1;
    }

    int chosen(int pack) {
        return chosen == null || pack < 0 || pack >= chosen.length ? NONE : chosen[pack];
    }

    int blame() {
        blamed = new ArrayList<>();
        List<Rule> kept = counting();
        if (!rightChoices(kept).isEmpty()) {
            return 0;
        }
        for (int i = 0; i < demands.size(); i++) {
            List<Rule> without = new ArrayList<>(kept);
            if (without.remove(demands.get(i))) {
                if (rightChoices(without).isEmpty()) {
                    kept = without;
                } else {
                    blamed.add(i);
                }
            }
        }
        return blamed.size();
    }

    int blamed(int i) {
        return i < 0 || i >= blamed.size() ? NONE : blamed.get(i);
    }

    boolean can(int pack, int version) {
        if (!isPack(pack)) {
            return false;
        }
        for (int[] choice : rightChoices(counting())) {
            if (choice[pack] == version) {
                return true;
            }
        }
        return false;
    }

    boolean must(int pack) {
        if (!isPack(pack)) {
            return false;
        }
        for (int[] choice : rightChoices(counting())) {
            if (choice[pack] == NONE) {
                return false;
            }
        }
        return true;
    }

    private boolean isPack(int pack) {
        return pack >= 0 && pack < versions.size();
    }

    private boolean isVersion(int pack, int version) {
        return version >= 0 && version < versions.get(pack);
    }

    private List<Rule> counting() {
        List<Rule> all = new ArrayList<>();
        for (Rule demand : demands) {
            if (!demand.out) {
                all.add(demand);
            }
        }
        return all;
    }

    private List<int[]> rightChoices(List<Rule> kept) {
        List<int[]> right = new ArrayList<>();
        int[] choice = new int[versions.size()];
        Arrays.fill(choice, NONE);
        do {
            if (isRight(choice, kept)) {
                right.add(choice.clone());
            }
        } while (next(choice));
        return right;
    }

    private boolean next(int[] choice) {
        for (int i = 0; i < choice.length; i++) {
            choice[i]++;
            if (choice[i] < versions.get(i)) {
                return true;
            }
            choice[i] = NONE;
        }
        return false;
    }

    private boolean isRight(int[] choice, List<Rule> kept) {
        for (Rule row : rows) {
            if (choice[row.pack] == row.version && !holds(row, choice)) {
                return false;
            }
        }
        for (Rule demand : kept) {
            if (!holds(demand, choice)) {
                return false;
            }
        }
        return true;
    }

    private static boolean holds(Rule rule, int[] choice) {
        boolean has = false;
        for (int[] alternative : rule.alternatives) {
            int version = choice[alternative[0]];
            has = has || version != NONE && (alternative[1] >> version & 1) == 1;
        }
        boolean absent = choice[rule.alternatives.get(0)[0]] == NONE;
        return rule.kind == 0 ? has : rule.kind == 1 ? !has : has || absent;
    }

    private boolean isBetter(int[] one, int[] other) {
        List<Integer> needed = new ArrayList<>();
        for (Rule demand : demands) {
            for (int[] alternative : demand.alternatives) {
                if (demand.kind == 0 && !needed.contains(alternative[0])) {
                    needed.add(alternative[0]);
                }
            }
        }
        List<Integer> order = new ArrayList<>(needed);
        for (int pack = 0; pack < versions.size(); pack++) {
            if (!needed.contains(pack)) {
                order.add(pack);
            }
        }
        for (int pack : order) {
            if (one[pack] != other[pack]) {
                return worth(pack, one[pack], needed) > worth(pack, other[pack], needed);
            }
        }
        return false;
    }

    private int worth(int pack, int version, List<Integer> needed) {
        if (version != NONE && version == locks.get(pack)) {
            return 100;
        }
        return version == NONE && !needed.contains(pack) ? 50 : version;
    }
}
