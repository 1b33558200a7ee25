/** Promises 15 and 16 and all that is said of the path, at the bounds, a test for each sentence. */
public final class PathBoundsTest extends Bounds {
    public static void main(String[] args) {
        pathIsEmptyAtFirst();
        pathIsEmptyAfterBegin();
        pathIsEmptyAfterClause();
        pathIsEmptyAfterDrop();

        walkBeginsAtFirstAndLastState();
        walkGoesOnToFirstAndLastState();
        walkRefusesNoSuchStateAtFirst();
        walkRefusesNoSuchStateLater();
        walkBeginsAtAnyStateWhenStartIsEmpty();
        walkBeginsNowhereWithoutAStart();
        walkBeginsAtAStartAlone();
        walkGoesOnToStatesThatAreNoStarts();
        walkGoesOnNowhereWithoutAStep();
        walkGoesOnToTheSameState();
        walkGoesOnFromTheLastStateOfThePath();
        walkTakesTheSixtyFourth();
        walkRefusesTheSixtyFifth();
        walkPassesAllStatesOfTheLargestMachine();
        walkBeginsAnewAfterAFullPath();
        walkChangesThePathAlone();
        walkPassesStatesWhateverIsBadOrClaimed();

        arrivesNotOnAnEmptyPath();
        arrivesOnAPathOfOne();
        arrivesByTheLastStateAlone();
        arrivesOnAFullPath();
        arrivesAtFirstAndLastState();
        arrivesNowhereWithoutABadState();
        due.end();
    }

    private static void pathIsEmptyAtFirst() {
        due.about("1 the path is empty; terms: empty at first");
        fresh().arrives().no();
        fresh().walk(0).is(1);
        fresh().walk(1).is(1);
    }

    private static void pathIsEmptyAfterBegin() {
        due.about("2 a new machine: the path is empty");
        int[] lengths = {0, 1, 2, 63, 64};
        for (int length : lengths) {
            Subject x = begun(2);
            goRoundAtZero(x, length);
            x.begin(2).yes();
            expectEmptyPath(x);
        }
    }

    private static void pathIsEmptyAfterClause() {
        due.about("3 clause: the path is empty then");
        int[] lengths = {0, 1, 2, 63, 64};
        for (int length : lengths) {
            for (int list : LISTS) {
                Subject x = begun(2);
                goRoundAtZero(x, length);
                // Such a clause alters nothing else.
                x.clause(list, 1, 1).is(0);
                expectEmptyPath(x);
            }
        }
    }

    private static void pathIsEmptyAfterDrop() {
        due.about("4 drop: the path is empty then");
        int[] lengths = {0, 1, 2, 63, 64};
        for (int length : lengths) {
            for (int list : LISTS) {
                Subject x = begun(2);
                x.fill(list, 2);
                goRoundAtZero(x, length);
                x.drop(list).is(1);
                expectEmptyPath(x);
                x.drop(list).is(0);
                expectEmptyPath(x);
            }
        }
    }

    /** Leaves a path of one state. */
    private static void expectEmptyPath(Subject x) {
        x.arrives().no();
        x.walk(3).is(1);
        x.arrives().yes();
    }

    private static void goRoundAtZero(Subject x, int length) {
        for (int i = 1; i <= length; i++) {
            x.walk(0).is(i);
        }
    }

    private static void walkBeginsAtFirstAndLastState() {
        due.about("15 terms: states are 0 .. 2^N - 1, at first");
        for (int n = 1; n <= 6; n++) {
            begun(n).walk(0).is(1);
            begun(n).walk(lastState(n)).is(1);
        }
    }

    private static void walkGoesOnToFirstAndLastState() {
        due.about("15 terms: states are 0 .. 2^N - 1, later");
        for (int n = 1; n <= 6; n++) {
            Subject x = begun(n);
            x.walk(0).is(1);
            x.walk(lastState(n)).is(2);
            x.walk(0).is(3);
        }
    }

    private static void walkRefusesNoSuchStateAtFirst() {
        due.about("15 NONE when there is no such state, on an empty path");
        for (int n = 1; n <= 6; n++) {
            for (int state : noStates(n)) {
                Subject x = begun(n);
                x.walk(state).none();
                x.arrives().no();
                x.walk(0).is(1);
            }
        }
    }

    private static void walkRefusesNoSuchStateLater() {
        due.about("15 NONE when there is no such state, on a path of two");
        for (int n = 1; n <= 6; n++) {
            for (int state : noStates(n)) {
                Subject x = begun(n);
                x.walk(0).is(1);
                x.walk(0).is(2);
                x.walk(state).none();
                x.arrives().yes();
                x.walk(0).is(3);
            }
        }
    }

    private static void walkBeginsAtAnyStateWhenStartIsEmpty() {
        due.about("15 terms: the first one is a start, START being empty");
        for (int n = 1; n <= 6; n++) {
            for (int state = 0; state <= lastState(n); state++) {
                begun(n).walk(state).is(1);
            }
        }
    }

    private static void walkBeginsNowhereWithoutAStart() {
        due.about("15 NONE when it can't: there is no start");
        for (int n = 1; n <= 6; n++) {
            Subject x = begun(n);
            x.close(START);
            for (int state = 0; state <= lastState(n); state++) {
                x.walk(state).none();
            }
            x.arrives().no();
            x.drop(START).is(0);
            x.walk(0).is(1);
        }
    }

    private static void walkBeginsAtAStartAlone() {
        due.about("15 NONE when it can't: it is reached, but no start");
        for (int n = 1; n <= 6; n++) {
            int[] starts = {0, lastState(n)};
            for (int start : starts) {
                Subject x = begun(n);
                x.only(START, start);
                for (int state = 0; state <= lastState(n); state++) {
                    if (state != start) {
                        x.walk(state).none();
                    }
                }
                x.depth(lastState(n) - start).is(1);
                x.walk(start).is(1);
            }
        }
    }

    private static void walkGoesOnToStatesThatAreNoStarts() {
        due.about("15 the path goes on: a later state need be no start");
        for (int n = 1; n <= 6; n++) {
            Subject x = begun(n);
            x.only(START, 0);
            x.walk(0).is(1);
            for (int state = 1; state <= lastState(n); state++) {
                x.walk(state).is(state + 1);
            }
        }
    }

    private static void walkGoesOnNowhereWithoutAStep() {
        due.about("15 NONE when it can't: there is no step");
        for (int n = 1; n <= 6; n++) {
            Subject x = begun(n);
            x.close(STEP);
            x.walk(lastState(n)).is(1);
            for (int state = 0; state <= lastState(n); state++) {
                x.walk(state).none();
            }
            x.arrives().yes();
        }
    }

    private static void walkGoesOnToTheSameState() {
        due.about("15 terms: one can go to another one, or to itself");
        for (int n = 1; n <= 6; n++) {
            Subject x = begun(n);
            for (int i = 0; i < n; i++) {
                x.add(STEP, 1 << n + i, 1 << i);
                x.add(STEP, 1 << i, 1 << n + i);
            }
            x.walk(lastState(n)).is(1);
            x.walk(0).none();
            x.walk(lastState(n)).is(2);
            x.walk(lastState(n)).is(3);
        }
    }

    private static void walkGoesOnFromTheLastStateOfThePath() {
        due.about("15 terms: one can go from each to the next");
        for (int n = 1; n <= 6; n++) {
            Subject x = begun(n);
            x.longCycle();
            x.only(START, 0);
            int state = 0;
            for (int length = 1; length <= 1 << n; length++) {
                x.walk(state).is(length);
                x.walk(state).none();
                state = Subject.nextOnLongCycle(n, state);
            }
        }
    }

    private static void walkTakesTheSixtyFourth() {
        due.about("15 terms: 64 at most: the 64th");
        for (int n = 1; n <= 6; n++) {
            Subject x = begun(n);
            for (int length = 1; length <= 64; length++) {
                x.walk(length % 2).is(length);
            }
        }
    }

    private static void walkRefusesTheSixtyFifth() {
        due.about("15 NONE when it has 64: the 65th");
        for (int n = 1; n <= 6; n++) {
            Subject x = begun(n);
            goRoundAtZero(x, 64);
            for (int state = 0; state <= lastState(n); state++) {
                x.walk(state).none();
            }
            x.walk(-1).none();
            x.walk(lastState(n) + 1).none();
            x.walk(0).none();
        }
    }

    private static void walkPassesAllStatesOfTheLargestMachine() {
        due.about("15 64 states of 6 switches, each once");
        Subject x = begun(6);
        x.longCycle();
        x.only(START, 0);
        int state = 0;
        for (int length = 1; length <= 64; length++) {
            x.depth(state).is(length - 1);
            x.walk(state).is(length);
            state = Subject.nextOnLongCycle(6, state);
        }
        x.holds(STEP, 32, state).yes();
        x.walk(state).none();
    }

    private static void walkBeginsAnewAfterAFullPath() {
        due.about("15 a new path of 64 behind a full one");
        Subject x = begun(2);
        goRoundAtZero(x, 64);
        x.clause(CLAIM, 1, 0).is(0);
        goRoundAtZero(x, 64);
        x.walk(0).none();
        x.drop(CLAIM).is(0);
        goRoundAtZero(x, 64);
        x.walk(0).none();
        x.begin(1).yes();
        goRoundAtZero(x, 64);
        x.walk(0).none();
    }

    private static void walkChangesThePathAlone() {
        due.about("15 the path goes on, and nothing else changes");
        Subject x = begun(3);
        x.ring();
        x.only(START, 1);
        x.only(BAD, 4);
        x.except(CLAIM, 6);
        int state = 1;
        for (int length = 1; length <= 64; length++) {
            x.walk(state).is(length);
            state = state == 4 ? 1 : 2 * state;
            if (length < 4 || length > 60) {
                expectRingOfThree(x);
            }
        }
    }

    private static void expectRingOfThree(Subject x) {
        x.switches().is(3);
        int[] counts = {3, 6, 3, 1};
        for (int list : LISTS) {
            x.count(list).is(counts[list]);
        }
        int[] depths = {-1, 0, 1, -1, 2, -1, -1, -1};
        for (int state = 0; state <= 7; state++) {
            x.depth(state).is(depths[state]);
        }
        x.safe().no();
        x.steps().is(2);
        x.reached().is(3);
        x.worst().is(4);
        x.check().is(2);
        x.flaw().is(3);
    }

    private static void walkPassesStatesWhateverIsBadOrClaimed() {
        due.about("15 terms: the first one is a start, and one can go from each to the next; that is all");
        for (int n = 1; n <= 6; n++) {
            Subject x = begun(n);
            x.only(BAD, 0);
            x.close(CLAIM);
            x.walk(0).is(1);
            x.walk(0).is(2);
            x.walk(lastState(n)).is(3);
            x.walk(0).is(4);
        }
    }

    private static void arrivesNotOnAnEmptyPath() {
        due.about("16 false when it is empty");
        for (int n = 1; n <= 6; n++) {
            Subject x = begun(n);
            x.arrives().no();
            x.walk(-1).none();
            x.arrives().no();
            x.walk(lastState(n)).is(1);
            x.arrives().yes();
            x.begin(n).yes();
            x.arrives().no();
        }
    }

    private static void arrivesOnAPathOfOne() {
        due.about("16 the first state is the last one");
        for (int n = 1; n <= 6; n++) {
            Subject bad = begun(n);
            bad.add(BAD, 1, 0);
            bad.walk(1).is(1);
            bad.arrives().yes();
            Subject good = begun(n);
            good.add(BAD, 1, 0);
            good.walk(0).is(1);
            good.arrives().no();
        }
    }

    private static void arrivesByTheLastStateAlone() {
        due.about("16 whether the path's last state is bad");
        Subject x = begun(1);
        x.add(BAD, 1, 0);
        for (int length = 1; length <= 64; length++) {
            x.walk(length % 2).is(length);
            x.arrives().is(length % 2);
        }
    }

    private static void arrivesOnAFullPath() {
        due.about("16 the 64th state, and none behind it");
        for (int last = 0; last <= 1; last++) {
            Subject x = begun(1);
            x.add(BAD, 1, 0);
            goRoundAtZero(x, 63);
            x.walk(last).is(64);
            x.arrives().is(last);
            x.walk(1 - last).none();
            x.arrives().is(last);
        }
    }

    private static void arrivesAtFirstAndLastState() {
        due.about("16 terms: states are 0 .. 2^N - 1, the first and the last one bad");
        for (int n = 1; n <= 6; n++) {
            int[] ends = {0, lastState(n)};
            for (int bad : ends) {
                Subject x = begun(n);
                x.only(BAD, bad);
                x.walk(bad).is(1);
                x.arrives().yes();
                x.walk(lastState(n) - bad).is(2);
                x.arrives().no();
            }
        }
    }

    private static void arrivesNowhereWithoutABadState() {
        due.about("16 no state is bad");
        for (int n = 1; n <= 6; n++) {
            Subject x = begun(n);
            x.close(BAD);
            for (int state = 0; state <= lastState(n); state++) {
                x.walk(state).is(state + 1);
                x.arrives().no();
            }
        }
    }
}
