/** Each promise by itself: ordinary inputs, the edges that the document names, and wrong inputs. */
public final class PromisesTest {
    private static final int NONE = ReachProver.NONE;
    private static final int START = 0;
    private static final int STEP = 1;
    private static final int BAD = 2;
    private static final int CLAIM = 3;
    private static final int[] NO_LISTS = {-1, 4, 5, 64, Integer.MIN_VALUE, Integer.MAX_VALUE};

    private static final Due due = new Due();

    public static void main(String[] args) {
        newObject();
        newObjectsShareNothing();
        begin();
        beginEmptiesAll();
        beginRefused();
        clause();
        clauseSetsAreOfTheSwitches();
        clauseRoomIsForTwentyFour();
        clauseRefusedChangesNothing();
        clauseEmptiesThePath();
        drop();
        dropTakesTheLast();
        dropRefusedChangesNothing();
        switches();
        count();
        holdsByClause();
        holdsInStep();
        holdsWithoutSuch();
        safe();
        steps();
        stepsAreTheFewest();
        depth();
        depthOfLongestChain();
        depthFollowsChanges();
        reached();
        worst();
        check();
        checkFirstOfSeveral();
        checkLooksAtStatesAlone();
        flaw();
        flawIsTheLeast();
        walk();
        walkHasSixtyFour();
        walkRefusedChangesNothing();
        arrives();
        due.end();
    }

    private static ReachProver machine(int n) {
        ReachProver x = new ReachProver();
        due.truth("begin(" + n + ")", x.begin(n), true);
        return x;
    }

    private static void add(ReachProver x, int list, int plus, int minus) {
        int before = x.count(list);
        due.number("clause(" + list + ", " + plus + ", " + minus + ")", x.clause(list, plus, minus), before);
    }

    private static void only(ReachProver x, int list, int state) {
        new Subject(due, x).only(list, state);
    }

    private static void except(ReachProver x, int list, int state) {
        new Subject(due, x).except(list, state);
    }

    private static ReachProver ring(int n) {
        ReachProver x = machine(n);
        new Subject(due, x).ring();
        return x;
    }

    private static void newObject() {
        due.about("1 a new object");
        ReachProver x = new ReachProver();
        due.number("switches()", x.switches(), 1);
        for (int list = 0; list < 4; list++) {
            due.number("count(" + list + ")", x.count(list), 0);
            due.number("drop(" + list + ")", x.drop(list), NONE);
        }
        due.truth("arrives()", x.arrives(), false);
        due.number("depth(1)", x.depth(1), 0);
        due.number("depth(2)", x.depth(2), NONE);
        due.number("walk(2)", x.walk(2), NONE);
        due.number("walk(1)", x.walk(1), 1);
    }

    private static void newObjectsShareNothing() {
        due.about("1 two objects");
        ReachProver x = new ReachProver();
        ReachProver y = new ReachProver();
        due.truth("x.begin(3)", x.begin(3), true);
        add(x, START, 1, 0);
        due.number("x.walk(1)", x.walk(1), 1);
        due.number("y.switches()", y.switches(), 1);
        due.number("y.count(0)", y.count(START), 0);
        due.number("y.walk(0)", y.walk(0), 1);
        due.number("x.walk(7)", x.walk(7), 2);
    }

    private static void begin() {
        due.about("2 begin");
        ReachProver x = new ReachProver();
        for (int n = 1; n <= 6; n++) {
            due.truth("begin(" + n + ")", x.begin(n), true);
            due.number("switches()", x.switches(), n);
            due.number("reached()", x.reached(), 1 << n);
        }
    }

    private static void beginEmptiesAll() {
        due.about("2 begin empties");
        ReachProver x = machine(2);
        for (int list = 0; list < 4; list++) {
            add(x, list, 3, 3);
            add(x, list, 1, 0);
        }
        due.number("walk(1)", x.walk(1), 1);
        due.truth("arrives()", x.arrives(), true);
        due.number("depth(0)", x.depth(0), 1);
        due.truth("begin(2)", x.begin(2), true);
        due.truth("arrives()", x.arrives(), false);
        for (int list = 0; list < 4; list++) {
            due.number("count(" + list + ")", x.count(list), 0);
            due.truth("holds(" + list + ", 0, 0)", x.holds(list, 0, 0), true);
        }
        due.number("reached()", x.reached(), 4);
        due.number("depth(0)", x.depth(0), 0);
        due.number("walk(0)", x.walk(0), 1);
    }

    private static void beginRefused() {
        due.about("2 begin refused");
        ReachProver x = machine(2);
        add(x, START, 2, 0);
        add(x, BAD, 2, 0);
        due.number("walk(2)", x.walk(2), 1);
        int[] wrong = {0, 7, -1, 8, 32, Integer.MIN_VALUE, Integer.MAX_VALUE};
        for (int n : wrong) {
            due.truth("begin(" + n + ")", x.begin(n), false);
            due.number("switches()", x.switches(), 2);
            due.number("count(0)", x.count(START), 1);
            due.truth("arrives()", x.arrives(), true);
        }
        due.number("walk(0)", x.walk(0), 2);
    }

    private static void clause() {
        due.about("3 clause");
        ReachProver x = machine(3);
        for (int list = 0; list < 4; list++) {
            due.number("clause(" + list + ", 1, 2)", x.clause(list, 1, 2), 0);
            due.number("clause(" + list + ", 0, 0)", x.clause(list, 0, 0), 1);
            due.number("clause(" + list + ", 5, 7)", x.clause(list, 5, 7), 2);
            due.number("count(" + list + ")", x.count(list), 3);
        }
        for (int list : NO_LISTS) {
            due.number("clause(" + list + ", 1, 2)", x.clause(list, 1, 2), NONE);
        }
    }

    private static void clauseSetsAreOfTheSwitches() {
        for (int n = 1; n <= 6; n++) {
            due.about("3 clause's sets, n " + n);
            ReachProver x = machine(n);
            for (int list = 0; list < 4; list++) {
                int end = 1 << (list == STEP ? 2 * n : n);
                int[] wrong = {end, end + 1, -1, 2 * end, Integer.MAX_VALUE, Integer.MIN_VALUE, -end};
                for (int set : wrong) {
                    due.number("clause(" + list + ", " + set + ", 0)", x.clause(list, set, 0), NONE);
                    due.number("clause(" + list + ", 0, " + set + ")", x.clause(list, 0, set), NONE);
                    due.number("clause(" + list + ", " + set + ", " + set + ")", x.clause(list, set, set), NONE);
                }
                due.number("count(" + list + ")", x.count(list), 0);
                due.number("clause(" + list + ", end - 1, 0)", x.clause(list, end - 1, 0), 0);
                due.number("clause(" + list + ", 0, end - 1)", x.clause(list, 0, end - 1), 1);
                due.number("clause(" + list + ", 0, 0)", x.clause(list, 0, 0), 2);
            }
        }
    }

    private static void clauseRoomIsForTwentyFour() {
        for (int list = 0; list < 4; list++) {
            due.about("3 clause, 24 in list " + list);
            ReachProver x = machine(2);
            for (int i = 0; i < 23; i++) {
                due.number("clause", x.clause(list, 1, 1), i);
            }
            due.truth("holds", x.holds(list, 0, 0), true);
            due.number("the 24th", x.clause(list, 1, 0), 23);
            due.truth("holds", x.holds(list, 0, 0), false);
            due.truth("holds", x.holds(list, 1, 0), true);
            due.number("the 25th", x.clause(list, 2, 0), NONE);
            due.number("count", x.count(list), 24);
            due.truth("holds", x.holds(list, 1, 0), true);
            for (int other = 0; other < 4; other++) {
                due.number("count of " + other, x.count(other), other == list ? 24 : 0);
            }
            due.number("drop", x.drop(list), 23);
            due.number("the 24th again", x.clause(list, 2, 0), 23);
            due.truth("holds", x.holds(list, 1, 0), false);
        }
    }

    private static void clauseRefusedChangesNothing() {
        due.about("3 clause refused");
        ReachProver x = machine(2);
        for (int i = 0; i < 24; i++) {
            add(x, CLAIM, 3, 3);
        }
        due.number("walk(3)", x.walk(3), 1);
        due.number("clause(3, 1, 0)", x.clause(CLAIM, 1, 0), NONE);
        due.number("clause(4, 1, 0)", x.clause(4, 1, 0), NONE);
        due.number("clause(-1, 1, 0)", x.clause(-1, 1, 0), NONE);
        due.number("clause(0, 4, 0)", x.clause(START, 4, 0), NONE);
        due.number("clause(0, 0, -1)", x.clause(START, 0, -1), NONE);
        due.number("clause(1, 16, 0)", x.clause(STEP, 16, 0), NONE);
        due.truth("arrives()", x.arrives(), true);
        due.number("walk(0)", x.walk(0), 2);
    }

    private static void clauseEmptiesThePath() {
        for (int list = 0; list < 4; list++) {
            due.about("3 clause empties the path, list " + list);
            ReachProver x = machine(1);
            due.number("walk(0)", x.walk(0), 1);
            due.number("walk(1)", x.walk(1), 2);
            add(x, list, 1, 1);
            due.truth("arrives()", x.arrives(), false);
            due.number("walk(1)", x.walk(1), 1);
            due.truth("arrives()", x.arrives(), true);
        }
    }

    private static void drop() {
        for (int list = 0; list < 4; list++) {
            due.about("4 drop, list " + list);
            ReachProver x = machine(2);
            add(x, list, 1, 0);
            add(x, list, 2, 0);
            due.number("walk", x.walk(3), 1);
            due.number("drop", x.drop(list), 1);
            due.truth("arrives()", x.arrives(), false);
            due.number("count", x.count(list), 1);
            due.number("walk", x.walk(3), 1);
            due.number("drop", x.drop(list), 0);
            due.truth("arrives()", x.arrives(), false);
            due.number("drop", x.drop(list), NONE);
            due.number("count", x.count(list), 0);
        }
    }

    private static void dropTakesTheLast() {
        due.about("4 drop takes the last");
        ReachProver x = machine(2);
        add(x, START, 1, 0);
        add(x, START, 2, 0);
        due.truth("holds(0, 1, 0)", x.holds(START, 1, 0), false);
        due.number("drop(0)", x.drop(START), 1);
        due.truth("holds(0, 1, 0)", x.holds(START, 1, 0), true);
        due.truth("holds(0, 2, 0)", x.holds(START, 2, 0), false);
        add(x, START, 0, 2);
        due.truth("holds(0, 1, 0)", x.holds(START, 1, 0), true);
        due.truth("holds(0, 3, 0)", x.holds(START, 3, 0), false);
    }

    private static void dropRefusedChangesNothing() {
        due.about("4 drop refused");
        ReachProver x = machine(1);
        add(x, START, 1, 0);
        due.number("walk(1)", x.walk(1), 1);
        for (int list : NO_LISTS) {
            due.number("drop(" + list + ")", x.drop(list), NONE);
        }
        due.number("drop(1)", x.drop(STEP), NONE);
        due.number("drop(2)", x.drop(BAD), NONE);
        due.truth("arrives()", x.arrives(), true);
        due.number("walk(0)", x.walk(0), 2);
        due.number("count(0)", x.count(START), 1);
    }

    private static void switches() {
        due.about("5 switches");
        ReachProver x = new ReachProver();
        due.number("switches()", x.switches(), 1);
        due.truth("begin(6)", x.begin(6), true);
        due.number("switches()", x.switches(), 6);
        due.truth("begin(7)", x.begin(7), false);
        due.number("switches()", x.switches(), 6);
        due.truth("begin(0)", x.begin(0), false);
        add(x, START, 1, 0);
        due.number("switches()", x.switches(), 6);
        due.truth("begin(1)", x.begin(1), true);
        due.number("switches()", x.switches(), 1);
    }

    private static void count() {
        due.about("6 count");
        ReachProver x = machine(2);
        for (int list = 0; list < 4; list++) {
            for (int i = 0; i <= list; i++) {
                add(x, list, 1, 0);
            }
        }
        for (int list = 0; list < 4; list++) {
            due.number("count(" + list + ")", x.count(list), list + 1);
        }
        for (int list : NO_LISTS) {
            due.number("count(" + list + ")", x.count(list), NONE);
        }
    }

    private static void holdsByClause() {
        int[] lists = {START, BAD, CLAIM};
        for (int list : lists) {
            due.about("7 holds, list " + list);
            ReachProver x = machine(3);
            due.truth("no clause", x.holds(list, 5, 0), true);
            add(x, list, 1, 4);
            for (int state = 0; state < 8; state++) {
                boolean want = (state & 1) != 0 || (state & 4) == 0;
                due.truth("state " + state, x.holds(list, state, 0), want);
                due.truth("state " + state + ", next -1", x.holds(list, state, -1), want);
                due.truth("state " + state + ", next 8", x.holds(list, state, 8), want);
                due.truth("state " + state + ", next 7", x.holds(list, state, 7), want);
            }
            add(x, list, 2, 2);
            due.truth("a switch in both sets", x.holds(list, 0, 0), true);
            add(x, list, 6, 0);
            due.truth("two clauses, the last fails", x.holds(list, 1, 0), false);
            due.truth("two clauses, the first fails", x.holds(list, 4, 0), false);
            due.truth("both hold", x.holds(list, 5, 0), true);
            add(x, list, 0, 0);
            due.truth("an empty clause", x.holds(list, 5, 0), false);
        }
    }

    private static void holdsInStep() {
        for (int n = 1; n <= 6; n++) {
            due.about("7 holds in list 1, n " + n);
            int top = 1 << n - 1;
            int last = (1 << n) - 1;
            ReachProver x = machine(n);
            due.truth("no clause", x.holds(STEP, last, 0), true);
            add(x, STEP, top << n, top);
            due.truth("on to off", x.holds(STEP, top, 0), false);
            due.truth("on to on", x.holds(STEP, top, top), true);
            due.truth("off to off", x.holds(STEP, 0, 0), true);
            due.truth("off to on", x.holds(STEP, 0, top), true);
            add(x, STEP, 1, 1 << n);
            due.truth("off to on, first switch", x.holds(STEP, 0, 1), false);
            due.truth("on to on, first switch", x.holds(STEP, last, last), true);
        }
    }

    private static void holdsWithoutSuch() {
        due.about("7 holds, none such");
        ReachProver x = machine(2);
        for (int list : NO_LISTS) {
            due.truth("holds(" + list + ", 0, 0)", x.holds(list, 0, 0), false);
        }
        int[] noStates = {-1, 4, 5, 64, Integer.MIN_VALUE, Integer.MAX_VALUE};
        for (int state : noStates) {
            for (int list = 0; list < 4; list++) {
                due.truth("holds(" + list + ", " + state + ", 0)", x.holds(list, state, 0), false);
            }
            due.truth("holds(1, 0, " + state + ")", x.holds(STEP, 0, state), false);
            due.truth("holds(0, 0, " + state + ")", x.holds(START, 0, state), true);
        }
    }

    private static void safe() {
        due.about("8 safe");
        ReachProver x = ring(3);
        only(x, START, 1);
        due.truth("all are bad", x.safe(), false);
        only(x, BAD, 3);
        due.truth("a bad one that is not reached", x.safe(), true);
        due.truth("begin(2)", x.begin(2), true);
        add(x, BAD, 0, 0);
        due.truth("none is bad", x.safe(), true);
        due.number("drop(2)", x.drop(BAD), 0);
        add(x, START, 0, 0);
        due.truth("none is a start", x.safe(), true);
    }

    private static void steps() {
        due.about("9 steps");
        ReachProver x = ring(5);
        only(x, START, 1);
        due.number("all are bad", x.steps(), 0);
        only(x, BAD, 16);
        due.number("at the ring's end", x.steps(), 4);
        due.truth("safe()", x.safe(), false);
        for (int i = 0; i < 5; i++) {
            due.number("drop(2)", x.drop(BAD), 4 - i);
        }
        only(x, BAD, 0);
        due.number("off the ring", x.steps(), NONE);
        due.truth("safe()", x.safe(), true);
    }

    private static void stepsAreTheFewest() {
        due.about("9 the fewest steps");
        ReachProver x = ring(4);
        only(x, START, 8);
        add(x, BAD, 6, 0);
        due.number("bad are 2 and 4, the least first", x.steps(), 2);
        due.truth("begin(4)", x.begin(4), true);
        for (int i = 0; i < 4; i++) {
            int to = 1 << 4 + (i + 3) % 4;
            add(x, STEP, to, 1 << i);
            add(x, STEP, 1 << i, to);
        }
        only(x, START, 8);
        add(x, BAD, 3, 0);
        due.number("bad are 2 and 1, the least last", x.steps(), 2);
    }

    private static void depth() {
        due.about("10 depth");
        ReachProver x = ring(6);
        only(x, START, 1);
        for (int state = 0; state < 64; state++) {
            boolean onRing = Integer.bitCount(state) == 1;
            due.number("depth(" + state + ")", x.depth(state), onRing ? Integer.numberOfTrailingZeros(state) : NONE);
        }
        int[] noStates = {-1, 64, 65, Integer.MIN_VALUE, Integer.MAX_VALUE};
        for (int state : noStates) {
            due.number("depth(" + state + ")", x.depth(state), NONE);
        }
        due.truth("begin(2)", x.begin(2), true);
        due.number("depth(3)", x.depth(3), 0);
        due.number("depth(4)", x.depth(4), NONE);
    }

    /** One cycle passes all 64 states, so the last one is as deep as any can be, and the path is full there. */
    private static void depthOfLongestChain() {
        due.about("10 the longest chain");
        ReachProver x = machine(6);
        new Subject(due, x).longCycle();
        only(x, START, 0);
        int state = 0;
        for (int k = 0; k < 64; k++) {
            due.number("depth(" + state + ")", x.depth(state), k);
            due.number("walk(" + state + ")", x.walk(state), k + 1);
            state = Subject.nextOnLongCycle(6, state);
        }
        due.number("back at the start", state, 0);
        due.number("walk(0), the 65th", x.walk(0), NONE);
        due.number("reached()", x.reached(), 64);
        only(x, BAD, 32);
        due.number("steps()", x.steps(), 63);
        due.number("worst()", x.worst(), 32);
    }

    private static void depthFollowsChanges() {
        due.about("10 depth after changes");
        ReachProver x = ring(3);
        only(x, START, 1);
        due.number("depth(4)", x.depth(4), 2);
        add(x, STEP, 0, 0);
        due.number("depth(4), no way", x.depth(4), NONE);
        due.number("drop(1)", x.drop(STEP), 6);
        due.number("depth(4), a way again", x.depth(4), 2);
        due.number("drop(0)", x.drop(START), 2);
        due.number("depth(4), 1 and 5 are starts", x.depth(4), 2);
        due.number("depth(5)", x.depth(5), 0);
        due.number("drop(0)", x.drop(START), 1);
        due.number("depth(3), 1, 3, 5, 7 are starts", x.depth(3), 0);
        due.truth("begin(4)", x.begin(4), true);
        due.number("depth(15)", x.depth(15), 0);
    }

    private static void reached() {
        due.about("11 reached");
        ReachProver x = ring(4);
        due.number("every state is a start", x.reached(), 16);
        only(x, START, 5);
        due.number("5 and 10", x.reached(), 2);
        due.truth("begin(6)", x.begin(6), true);
        due.number("all", x.reached(), 64);
        only(x, START, 0);
        due.number("from one to all", x.reached(), 64);
        due.number("depth(63)", x.depth(63), 1);
        add(x, STEP, 0, 0);
        due.number("no steps", x.reached(), 1);
        add(x, START, 0, 0);
        due.number("no start", x.reached(), 0);
    }

    private static void worst() {
        due.about("12 worst");
        ReachProver x = ring(4);
        only(x, START, 8);
        due.number("all are bad", x.worst(), 1);
        add(x, BAD, 14, 0);
        due.number("the least of 2, 4, 8, though 8 is nearest", x.worst(), 2);
        add(x, BAD, 12, 0);
        due.number("the least of 4, 8", x.worst(), 4);
        add(x, BAD, 3, 0);
        due.number("bad ones, none reached", x.worst(), NONE);
        due.truth("begin(1)", x.begin(1), true);
        due.number("0 is bad", x.worst(), 0);
    }

    private static void check() {
        due.about("13 check");
        ReachProver x = ring(3);
        only(x, START, 1);
        only(x, BAD, 7);
        due.number("7 is claimed", x.check(), 3);
        except(x, CLAIM, 7);
        due.number("it shows", x.check(), 0);
        except(x, CLAIM, 4);
        due.number("2 goes to 4", x.check(), 2);
        except(x, CLAIM, 1);
        due.number("1 is not claimed", x.check(), 1);
        due.truth("begin(2)", x.begin(2), true);
        add(x, BAD, 0, 0);
        due.number("all are claimed, none bad", x.check(), 0);
        add(x, CLAIM, 0, 0);
        due.number("none is claimed", x.check(), 1);
        add(x, START, 0, 0);
        due.number("none is claimed, no start", x.check(), 0);
    }

    private static void checkFirstOfSeveral() {
        due.about("13 the first of several");
        ReachProver x = machine(2);
        add(x, CLAIM, 1, 0);
        due.number("1, 2 and 3 are not so", x.check(), 1);
        due.number("flaw()", x.flaw(), 0);
        add(x, START, 1, 0);
        due.number("2 and 3 are not so", x.check(), 2);
        due.number("flaw()", x.flaw(), 1);
        add(x, STEP, 4, 1);
        due.number("3 is not so", x.check(), 3);
        due.number("flaw()", x.flaw(), 1);
        add(x, BAD, 0, 1);
        due.number("all are so", x.check(), 0);
        due.number("flaw()", x.flaw(), NONE);
    }

    /** Every step goes to 3; a look at 4, which is no state, would take 0 to 3 for a step to 2. */
    private static void checkLooksAtStatesAlone() {
        due.about("13 no state beyond the last");
        ReachProver x = machine(2);
        int[] lists = {START, CLAIM};
        for (int list : lists) {
            add(x, list, 1, 2);
            add(x, list, 2, 1);
        }
        add(x, STEP, 4, 0);
        add(x, STEP, 8, 0);
        add(x, BAD, 0, 0);
        due.number("0 and 3 are claimed", x.check(), 0);
        due.number("flaw()", x.flaw(), NONE);
    }

    private static void flaw() {
        due.about("14 flaw");
        ReachProver x = ring(3);
        only(x, START, 1);
        only(x, BAD, 7);
        due.number("7 is claimed", x.flaw(), 7);
        except(x, CLAIM, 7);
        due.number("it shows", x.flaw(), NONE);
        except(x, CLAIM, 4);
        due.number("2 goes to 4", x.flaw(), 2);
        except(x, CLAIM, 1);
        due.number("1 is not claimed", x.flaw(), 1);
    }

    private static void flawIsTheLeast() {
        due.about("14 the least");
        ReachProver x = machine(3);
        add(x, START, 6, 0);
        add(x, CLAIM, 1, 0);
        due.number("starts 2, 4, 6 are not claimed", x.flaw(), 2);
        add(x, START, 1, 0);
        add(x, STEP, 8, 2);
        due.number("1 and 5 leave the claim", x.flaw(), 1);
        add(x, STEP, 12, 0);
        due.number("5 leaves the claim", x.flaw(), 5);
        add(x, STEP, 8, 0);
        add(x, BAD, 4, 0);
        due.number("check()", x.check(), 3);
        due.number("5 and 7 are claimed and bad", x.flaw(), 5);
        add(x, BAD, 2, 0);
        due.number("7 is claimed and bad", x.flaw(), 7);
    }

    private static void walk() {
        due.about("15 walk");
        ReachProver x = ring(3);
        only(x, START, 1);
        due.number("4 is no start", x.walk(4), NONE);
        due.number("2 is no start", x.walk(2), NONE);
        due.number("1 is one", x.walk(1), 1);
        due.number("1 to 1", x.walk(1), NONE);
        due.number("1 to 4", x.walk(4), NONE);
        due.number("1 to 2", x.walk(2), 2);
        due.number("2 to 1", x.walk(1), NONE);
        due.number("2 to 4", x.walk(4), 3);
        due.number("4 to 1", x.walk(1), 4);
        due.truth("begin(2)", x.begin(2), true);
        add(x, START, 0, 0);
        due.number("no start", x.walk(0), NONE);
    }

    private static void walkHasSixtyFour() {
        due.about("15 walk, 64");
        ReachProver x = machine(2);
        for (int i = 1; i <= 64; i++) {
            due.number("walk(" + i % 4 + ")", x.walk(i % 4), i);
        }
        due.number("the 65th", x.walk(3), NONE);
        due.truth("arrives()", x.arrives(), true);
        add(x, BAD, 1, 0);
        due.number("a new path", x.walk(1), 1);
        for (int i = 2; i <= 64; i++) {
            due.number("walk(0)", x.walk(0), i);
        }
        due.number("the 65th", x.walk(1), NONE);
        due.truth("the last is still 0", x.arrives(), false);
    }

    private static void walkRefusedChangesNothing() {
        due.about("15 walk refused");
        ReachProver x = ring(2);
        only(x, START, 1);
        only(x, BAD, 1);
        int[] noStates = {-1, 4, 5, 64, Integer.MIN_VALUE, Integer.MAX_VALUE};
        for (int state : noStates) {
            due.number("walk(" + state + ")", x.walk(state), NONE);
        }
        due.truth("arrives(), empty", x.arrives(), false);
        due.number("walk(1)", x.walk(1), 1);
        for (int state : noStates) {
            due.number("walk(" + state + ")", x.walk(state), NONE);
        }
        due.number("walk(3)", x.walk(3), NONE);
        due.truth("arrives(), still at 1", x.arrives(), true);
        due.number("walk(2)", x.walk(2), 2);
    }

    private static void arrives() {
        due.about("16 arrives");
        ReachProver x = ring(3);
        only(x, START, 1);
        only(x, BAD, 4);
        due.truth("empty", x.arrives(), false);
        due.number("walk(1)", x.walk(1), 1);
        due.truth("at 1", x.arrives(), false);
        due.number("walk(2)", x.walk(2), 2);
        due.truth("at 2", x.arrives(), false);
        due.number("walk(4)", x.walk(4), 3);
        due.truth("at 4", x.arrives(), true);
        due.number("walk(1)", x.walk(1), 4);
        due.truth("beyond it", x.arrives(), false);
        due.truth("begin(1)", x.begin(1), true);
        due.truth("empty, all are bad", x.arrives(), false);
        due.number("walk(0)", x.walk(0), 1);
        due.truth("at 0", x.arrives(), true);
    }
}
