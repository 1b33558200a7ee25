/**
 * A machine of a few switches, told by clauses: whether it can ever come to a bad state, in how few
 * steps, which states it comes to, and whether clauses that somebody claims show that it can't.
 */
public final class ReachProver {
    public static final int NONE = -1;

    private static final int START = 0;
    private static final int STEP = 1;
    private static final int BAD = 2;
    private static final int CLAIM = 3;
    private static final int LIST_COUNT = 4;

    private static final int MOST_SWITCHES = 6;
    private static final int MOST_STATES = 1 << MOST_SWITCHES;
    private static final int MOST_ON_PATH = 64;

    private static final int STARTS_ARE_CLAIMED = 1;
    private static final int CLAIMED_STAY_CLAIMED = 2;
    private static final int NO_CLAIMED_IS_BAD = 3;

    private final ClauseList[] lists;
    private final int[] depths;
    private boolean depthsKnown;
    private int switchCount;
    // No call tells an earlier state of the path, so its length and its last state are all that is kept.
    private int pathLength;
    private int pathEnd;

    public ReachProver() {
        lists = new ClauseList[LIST_COUNT];
        for (int list = 0; list < LIST_COUNT; list++) {
            lists[list] = new ClauseList();
        }
        depths = new int[MOST_STATES];
        depthsKnown = false;
        switchCount = 1;
        pathLength = 0;
        pathEnd = 0;
    }

    public boolean begin(int n) {
        if (n < 1 || n > MOST_SWITCHES) {
            return false;
        }
        switchCount = n;
        for (int list = 0; list < LIST_COUNT; list++) {
            lists[list].removeAll();
        }
        forgetWhatFollowed();
        return true;
    }

    public int clause(int list, int plus, int minus) {
        if (!isList(list) || !isSetOf(list, plus) || !isSetOf(list, minus) || lists[list].isFull()) {
            return NONE;
        }
        lists[list].add(plus, minus);
        forgetWhatFollowed();
        return lists[list].size - 1;
    }

    public int drop(int list) {
        if (!isList(list) || lists[list].size == 0) {
            return NONE;
        }
        lists[list].removeLast();
        forgetWhatFollowed();
        return lists[list].size;
    }

    public int switches() {
        return switchCount;
    }

    public int count(int list) {
        return isList(list) ? lists[list].size : NONE;
    }

    public boolean holds(int list, int state, int next) {
        if (!isList(list) || !isState(state)) {
            return false;
        }
        if (list == STEP) {
            return isState(next) && canGo(state, next);
        }
        return isIn(list, state);
    }

    public boolean safe() {
        return worst() == NONE;
    }

    public int steps() {
        findDepths();
        int fewest = NONE;
        for (int state = 0; state < stateCount(); state++) {
            if (isReachedBad(state) && (fewest == NONE || depths[state] < fewest)) {
                fewest = depths[state];
            }
        }
        return fewest;
    }

    public int depth(int state) {
        if (!isState(state)) {
            return NONE;
        }
        findDepths();
        return depths[state];
    }

    public int reached() {
        findDepths();
        int found = 0;
        for (int state = 0; state < stateCount(); state++) {
            if (depths[state] != NONE) {
                found++;
            }
        }
        return found;
    }

    public int worst() {
        findDepths();
        for (int state = 0; state < stateCount(); state++) {
            if (isReachedBad(state)) {
                return state;
            }
        }
        return NONE;
    }

    public int check() {
        for (int rule = STARTS_ARE_CLAIMED; rule <= NO_CLAIMED_IS_BAD; rule++) {
            if (leastBreaking(rule) != NONE) {
                return rule;
            }
        }
        return 0;
    }

    public int flaw() {
        int rule = check();
        return rule == 0 ? NONE : leastBreaking(rule);
    }

    public int walk(int state) {
        if (!isState(state) || pathLength >= MOST_ON_PATH) {
            return NONE;
        }
        boolean may = pathLength == 0 ? isIn(START, state) : canGo(pathEnd, state);
        if (!may) {
            return NONE;
        }
        pathEnd = state;
        pathLength++;
        return pathLength;
    }

    public boolean arrives() {
        return pathLength > 0 && isIn(BAD, pathEnd);
    }

    private int stateCount() {
        return 1 << switchCount;
    }

    private boolean isState(int state) {
        return state >= 0 && state < stateCount();
    }

    private static boolean isList(int list) {
        return list >= 0 && list < LIST_COUNT;
    }

    private boolean isSetOf(int list, int set) {
        int width = list == STEP ? 2 * switchCount : switchCount;
        return set >= 0 && set < 1 << width;
    }

    private boolean isIn(int list, int state) {
        return lists[list].allHold(state);
    }

    private boolean canGo(int from, int to) {
        return lists[STEP].allHold(from | to << switchCount);
    }

    private boolean isReachedBad(int state) {
        return depths[state] != NONE && isIn(BAD, state);
    }

    private void forgetWhatFollowed() {
        pathLength = 0;
        depthsKnown = false;
    }

    private void findDepths() {
        // Asking for the depth of state after state is common, and a search for each would be dear.
        if (depthsKnown) {
            return;
        }
        for (int state = 0; state < stateCount(); state++) {
            depths[state] = isIn(START, state) ? 0 : NONE;
        }
        // A least number of steps passes no state twice, so it stays below the number of states.
        for (int level = 0; level < stateCount(); level++) {
            goOnFrom(level);
        }
        depthsKnown = true;
    }

    private void goOnFrom(int level) {
        for (int from = 0; from < stateCount(); from++) {
            if (depths[from] == level) {
                goOnFromState(from);
            }
        }
    }

    private void goOnFromState(int from) {
        for (int to = 0; to < stateCount(); to++) {
            if (depths[to] == NONE && canGo(from, to)) {
                depths[to] = depths[from] + 1;
            }
        }
    }

    private int leastBreaking(int rule) {
        for (int state = 0; state < stateCount(); state++) {
            if (breaks(rule, state)) {
                return state;
            }
        }
        return NONE;
    }

    private boolean breaks(int rule, int state) {
        switch (rule) {
            case STARTS_ARE_CLAIMED:
                return isIn(START, state) && !isIn(CLAIM, state);
            case CLAIMED_STAY_CLAIMED:
                return isIn(CLAIM, state) && canLeaveClaim(state);
            case NO_CLAIMED_IS_BAD:
                return isIn(CLAIM, state) && isIn(BAD, state);
            default:
                return false;
        }
    }

    private boolean canLeaveClaim(int from) {
        for (int to = 0; to < stateCount(); to++) {
            if (!isIn(CLAIM, to) && canGo(from, to)) {
                return true;
            }
        }
        return false;
    }

    /** Clauses that are to hold all at once. Its rows are made once and used again. */
    private static final class ClauseList {
        private static final int MOST = 24;

        private final int[] pluses;
        private final int[] minuses;
        private int size;

        private ClauseList() {
            pluses = new int[MOST];
            minuses = new int[MOST];
            size = 0;
        }

        private boolean isFull() {
            return size >= MOST;
        }

        private void add(int plus, int minus) {
            if (isFull()) {
                return;
            }
            pluses[size] = plus;
            minuses[size] = minus;
            size++;
        }

        private void removeLast() {
            if (size > 0) {
                size--;
            }
        }

        private void removeAll() {
            size = 0;
        }

        private boolean allHold(int on) {
            for (int i = 0; i < size; i++) {
                if ((pluses[i] & on) == 0 && (minuses[i] & ~on) == 0) {
                    return false;
                }
            }
            return true;
        }
    }
}
