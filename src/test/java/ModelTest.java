import java.util.ArrayList;
import java.util.List;

/** Long mixed runs, each answer against a model that follows the document's words and shares no thought with the class. */
public final class ModelTest {
    private static final int RUNS = 240;
    private static final int CALLS = 512;
    private static final int NONE = -1;

    /** A fixed row of numbers, so that every run of the test is the same. */
    private static final class Row {
        private long seed;

        Row(long seed) {
            this.seed = seed;
        }

        int below(int end) {
            seed = seed * 6364136223846793005L + 1442695040888963407L;
            return (int) ((seed >>> 33) % end);
        }
    }

    /** The document's terms, switch by switch and set by set. */
    private static final class Model {
        int n = 1;
        List<List<int[]>> lists = emptyLists();
        List<Integer> path = new ArrayList<>();
        boolean[][] reachedIn;

        static List<List<int[]>> emptyLists() {
            List<List<int[]>> lists = new ArrayList<>();
            for (int i = 0; i < 4; i++) {
                lists.add(new ArrayList<>());
            }
            return lists;
        }

        int states() {
            int states = 1;
            for (int i = 0; i < n; i++) {
                states *= 2;
            }
            return states;
        }

        boolean isOn(int set, int i) {
            for (int k = 0; k < i; k++) {
                set /= 2;
            }
            return set % 2 == 1;
        }

        boolean switchOn(int i, int state, int next) {
            return i < n ? isOn(state, i) : isOn(next, i - n);
        }

        boolean clauseHolds(int[] clause, int width, int state, int next) {
            for (int i = 0; i < width; i++) {
                boolean on = switchOn(i, state, next);
                if (isOn(clause[0], i) && on || isOn(clause[1], i) && !on) {
                    return true;
                }
            }
            return false;
        }

        boolean all(int list, int state, int next) {
            for (int[] clause : lists.get(list)) {
                if (!clauseHolds(clause, list == 1 ? 2 * n : n, state, next)) {
                    return false;
                }
            }
            return true;
        }

        boolean begin(int newN) {
            if (newN < 1 || newN > 6) {
                return false;
            }
            n = newN;
            lists = emptyLists();
            changed();
            return true;
        }

        int clause(int list, int plus, int minus) {
            if (list < 0 || list > 3 || lists.get(list).size() == 24) {
                return NONE;
            }
            int sets = list == 1 ? states() * states() : states();
            if (plus < 0 || minus < 0 || plus >= sets || minus >= sets) {
                return NONE;
            }
            lists.get(list).add(new int[] {plus, minus});
            changed();
            return lists.get(list).size() - 1;
        }

        int drop(int list) {
            if (list < 0 || list > 3 || lists.get(list).isEmpty()) {
                return NONE;
            }
            lists.get(list).remove(lists.get(list).size() - 1);
            changed();
            return lists.get(list).size();
        }

        void changed() {
            path.clear();
            reachedIn = null;
        }

        int count(int list) {
            return list < 0 || list > 3 ? NONE : lists.get(list).size();
        }

        boolean isState(int state) {
            return state >= 0 && state < states();
        }

        boolean holds(int list, int state, int next) {
            return list >= 0 && list <= 3 && isState(state) && (list != 1 || isState(next)) && all(list, state, next);
        }

        /** Row k has the states reached in exactly k steps; more steps than there are states bring nothing new. */
        boolean[][] reachedIn() {
            if (reachedIn == null) {
                boolean[][] go = new boolean[states()][states()];
                boolean[][] rows = new boolean[states() + 1][states()];
                for (int from = 0; from < states(); from++) {
                    rows[0][from] = all(0, from, 0);
                    for (int to = 0; to < states(); to++) {
                        go[from][to] = all(1, from, to);
                    }
                }
                for (int k = 1; k <= states(); k++) {
                    oneStep(go, rows[k - 1], rows[k]);
                }
                reachedIn = rows;
            }
            return reachedIn;
        }

        static void oneStep(boolean[][] go, boolean[] before, boolean[] after) {
            for (int from = 0; from < before.length; from++) {
                for (int to = 0; before[from] && to < after.length; to++) {
                    after[to] |= go[from][to];
                }
            }
        }

        int depth(int state) {
            for (int k = 0; isState(state) && k <= states(); k++) {
                if (reachedIn()[k][state]) {
                    return k;
                }
            }
            return NONE;
        }

        int steps() {
            for (int k = 0; k <= states(); k++) {
                for (int state = 0; state < states(); state++) {
                    if (reachedIn()[k][state] && all(2, state, 0)) {
                        return k;
                    }
                }
            }
            return NONE;
        }

        int reached() {
            int found = 0;
            for (int state = 0; state < states(); state++) {
                found += depth(state) == NONE ? 0 : 1;
            }
            return found;
        }

        int worst() {
            for (int state = 0; state < states(); state++) {
                if (all(2, state, 0) && depth(state) != NONE) {
                    return state;
                }
            }
            return NONE;
        }

        boolean goesOutOfClaim(int state) {
            for (int to = 0; to < states(); to++) {
                if (all(1, state, to) && !all(3, to, 0)) {
                    return true;
                }
            }
            return false;
        }

        int[] checkAndFlaw() {
            for (int state = 0; state < states(); state++) {
                if (all(0, state, 0) && !all(3, state, 0)) {
                    return new int[] {1, state};
                }
            }
            for (int state = 0; state < states(); state++) {
                if (all(3, state, 0) && goesOutOfClaim(state)) {
                    return new int[] {2, state};
                }
            }
            for (int state = 0; state < states(); state++) {
                if (all(3, state, 0) && all(2, state, 0)) {
                    return new int[] {3, state};
                }
            }
            return new int[] {0, NONE};
        }

        int walk(int state) {
            if (!isState(state) || path.size() == 64) {
                return NONE;
            }
            boolean can = path.isEmpty() ? all(0, state, 0) : all(1, path.get(path.size() - 1), state);
            if (!can) {
                return NONE;
            }
            path.add(state);
            return path.size();
        }

        boolean arrives() {
            return !path.isEmpty() && all(2, path.get(path.size() - 1), 0);
        }
    }

    private final Due due;
    private final Row row;
    private final ReachProver x = new ReachProver();
    private final Model model = new Model();
    private int callsLeft;

    /** What the runs came by, so that a row of numbers that meets only dull machines is a fault of the test. */
    private static final int[] checksMet = new int[4];
    private static int deepestMet = 0;
    private static int longestPathMet = 0;
    private static int safeMet = 0;
    private static int unsafeMet = 0;

    private ModelTest(Due due, long seed) {
        this.due = due;
        this.row = new Row(seed);
    }

    public static void main(String[] args) {
        Due due = new Due();
        for (int run = 0; run < RUNS; run++) {
            due.about("run " + run);
            new ModelTest(due, run).run(run % 6 + 1);
        }
        due.about("what the runs came by");
        for (int rule = 0; rule < 4; rule++) {
            due.truth("check() is " + rule + " at times", checksMet[rule] > 50, true);
        }
        due.truth("depths above 8", deepestMet > 8, true);
        due.truth("a full path", longestPathMet == 64, true);
        due.truth("safe at times", safeMet > 50, true);
        due.truth("not safe at times", unsafeMet > 50, true);
        due.end();
    }

    private void run(int n) {
        due.truth("begin", x.begin(n), model.begin(n));
        callsLeft = CALLS - 1;
        if (row.below(2) == 0) {
            addShiftingMachine();
        } else {
            addClauses(3 * (1 + row.below(24)));
        }
        int changes = row.below(3) == 0 ? 1 : 11;
        // The dearest turn makes two calls.
        while (callsLeft >= 2) {
            int kind = row.below(100);
            callsLeft--;
            if (kind < changes) {
                change(kind);
            } else if (kind < 50) {
                walkOn();
            } else {
                ask(kind);
            }
        }
    }

    private void addClauses(int howMany) {
        for (int i = 0; i < howMany; i++) {
            callsLeft--;
            addClause();
        }
    }

    /** One start, and what is on goes one switch up: such machines come to their states late. */
    private void addShiftingMachine() {
        int n = model.n;
        for (int i = 0; i < n; i++) {
            boolean on = row.below(2) == 0;
            addThis(0, on ? 1 << i : 0, on ? 0 : 1 << i);
        }
        for (int i = 0; i + 1 < n; i++) {
            addThis(1, 1 << n + i + 1, 1 << i);
            addThis(1, 1 << i, 1 << n + i + 1);
        }
        callsLeft -= n + 2 * (n - 1);
        addClauses(3 + row.below(9));
    }

    private void change(int kind) {
        if (kind < 8) {
            addClause();
        } else {
            int list = row.below(6) - 1;
            due.number("drop(" + list + ")", x.drop(list), model.drop(list));
        }
    }

    private void addClause() {
        int list = row.below(16) == 0 ? row.below(8) - 2 : row.below(2) == 0 ? 1 : row.below(4);
        int width = list == 1 ? 2 * model.n : model.n;
        int plus = 0;
        int minus = 0;
        int literals = row.below(20) == 0 ? 0 : 1 + row.below(3) + (list == 1 ? 1 : 0);
        for (int i = 0; i < literals; i++) {
            int bit = 1 << row.below(width + (row.below(12) == 0 ? 1 : 0));
            if (row.below(2) == 0) {
                plus |= bit;
            } else {
                minus |= bit;
            }
        }
        if (row.below(30) == 0) {
            minus = -1 - minus;
        }
        addThis(list, plus, minus);
    }

    private void addThis(int list, int plus, int minus) {
        String call = "clause(" + list + ", " + plus + ", " + minus + ")";
        due.number(call, x.clause(list, plus, minus), model.clause(list, plus, minus));
    }

    private int someState() {
        return row.below(20) == 0 ? row.below(200) - 100 : row.below(model.states());
    }

    private void walkOn() {
        int state = someState();
        int from = model.path.isEmpty() ? 0 : model.path.get(model.path.size() - 1);
        for (int i = 0; i < model.states() && row.below(10) != 0; i++) {
            int way = (state + i & Integer.MAX_VALUE) % model.states();
            if (model.path.isEmpty() ? model.all(0, way, 0) : model.all(1, from, way)) {
                state = way;
                break;
            }
        }
        due.number("walk(" + state + ")", x.walk(state), model.walk(state));
        longestPathMet = Math.max(longestPathMet, model.path.size());
    }

    private void ask(int kind) {
        int state = someState();
        int next = someState();
        int list = row.below(6) - 1;
        if (kind < 58) {
            due.truth("holds(" + list + ", " + state + ", " + next + ")", x.holds(list, state, next),
                model.holds(list, state, next));
        } else if (kind < 62) {
            due.number("count(" + list + ")", x.count(list), model.count(list));
        } else if (kind < 64) {
            due.number("switches()", x.switches(), model.n);
        } else if (kind < 70) {
            due.truth("arrives()", x.arrives(), model.arrives());
        } else if (kind < 78) {
            due.number("depth(" + state + ")", x.depth(state), model.depth(state));
            deepestMet = Math.max(deepestMet, model.depth(state));
        } else if (kind < 82) {
            due.number("reached()", x.reached(), model.reached());
        } else if (kind < 86) {
            due.number("worst()", x.worst(), model.worst());
        } else if (kind < 90) {
            askSteps();
        } else if (kind < 98) {
            askCheck();
        } else {
            int n = row.below(30) == 0 ? 1 + row.below(6) : row.below(2) * 7;
            due.truth("begin(" + n + ")", x.begin(n), model.begin(n));
        }
    }

    private void askSteps() {
        int steps = model.steps();
        due.number("steps()", x.steps(), steps);
        due.truth("safe()", x.safe(), steps == NONE);
        callsLeft--;
        if (steps == NONE) {
            safeMet++;
        } else {
            unsafeMet++;
        }
    }

    private void askCheck() {
        int[] want = model.checkAndFlaw();
        due.number("check()", x.check(), want[0]);
        due.number("flaw()", x.flaw(), want[1]);
        callsLeft--;
        checksMet[want[0]]++;
    }
}
