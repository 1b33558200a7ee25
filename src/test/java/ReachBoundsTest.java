/** Promises 8 to 14 at their bounds, a test for each sentence: what is reached, and what the claim shows. */
public final class ReachBoundsTest extends Bounds {
    public static void main(String[] args) {
        for (int n = 1; n <= 6; n++) {
            noStart(n);
            noStep(n);
            noBadState(n);
            noClaimedState(n);
            emptyStart(n);
            emptyStep(n);
            emptyBad(n);
            emptyClaim(n);
            allListsEmpty(n);
            allStatesReached(n);
            fullLists(n);
            reachedWhateverIsBadOrClaimed(n);
            claimShowsItForEachBadState(n);

            safeWithABadStateThatIsNotReached(n);
            stepsAreNone(n);
            stepsAreZero(n);
            stepsAreAsManyAsCanBe(n);
            depthOfFirstAndLastState(n);
            depthOfNoSuchState(n);
            depthOfAStartThatIsReachedAgain(n);
            depthsOfTheLongestChain(n);
            reachedIsNone(n);
            reachedIsOne(n);
            reachedIsAllButOne(n);
            reachedIsAll(n);
            worstIsNone(n);
            worstIsTheFirstState(n);
            worstIsTheLastState(n);
            worstIsTheLeast(n);

            checkIsZero(n);
            checkIsOne(n);
            checkIsTwo(n);
            checkIsThree(n);
            checkIsTheFirstOfSeveral(n);
            checkTakesAStepToTheFirstState(n);
            checkTakesAStepToTheLastState(n);
            checkPassesStepsAmongTheUnclaimed(n);
            flawIsNone(n);
            flawIsTheFirstState(n);
            flawIsTheLastState(n);
            flawIsTheLeast(n);
        }
        checkLooksAtClaimedStatesThatAreNotReached();
        due.end();
    }

    private static void noStart(int n) {
        due.about("8 to 14 no start, n " + n);
        Subject x = begun(n);
        x.close(START);
        x.safe().yes();
        x.steps().none();
        x.reached().is(0);
        x.worst().none();
        for (int state = 0; state <= lastState(n); state++) {
            x.depth(state).none();
        }
        x.check().is(3);
        x.flaw().is(0);
        x.close(BAD);
        x.check().is(0);
        x.flaw().none();
        x.close(CLAIM);
        x.check().is(0);
        x.flaw().none();
    }

    private static void noStep(int n) {
        due.about("8 to 14 no step, n " + n);
        Subject x = begun(n);
        x.close(STEP);
        x.only(START, lastState(n));
        x.only(BAD, 0);
        x.only(CLAIM, lastState(n));
        x.safe().yes();
        x.steps().none();
        x.reached().is(1);
        x.worst().none();
        x.depth(lastState(n)).is(0);
        x.depth(0).none();
        x.check().is(0);
        x.flaw().none();
    }

    private static void noBadState(int n) {
        due.about("8 to 14 no bad state, n " + n);
        Subject x = begun(n);
        x.close(BAD);
        x.safe().yes();
        x.steps().none();
        x.reached().is(1 << n);
        x.worst().none();
        x.check().is(0);
        x.flaw().none();
    }

    private static void noClaimedState(int n) {
        due.about("13, 14 no claimed state, n " + n);
        Subject x = begun(n);
        x.close(CLAIM);
        x.check().is(1);
        x.flaw().is(0);
        x.only(START, lastState(n));
        x.check().is(1);
        x.flaw().is(lastState(n));
        x.close(START);
        x.check().is(0);
        x.flaw().none();
    }

    private static void emptyStart(int n) {
        due.about("8 to 14 START is empty: every state is a start, n " + n);
        Subject x = begun(n);
        x.close(STEP);
        x.reached().is(1 << n);
        for (int state = 0; state <= lastState(n); state++) {
            x.depth(state).is(0);
        }
        x.only(BAD, lastState(n));
        x.safe().no();
        x.steps().is(0);
        x.worst().is(lastState(n));
        x.except(CLAIM, lastState(n));
        x.check().is(1);
        x.flaw().is(lastState(n));
    }

    private static void emptyStep(int n) {
        due.about("8 to 14 STEP is empty: one can go from any state to any, n " + n);
        Subject x = begun(n);
        x.only(START, lastState(n));
        x.reached().is(1 << n);
        for (int state = 0; state <= lastState(n); state++) {
            x.depth(state).is(state == lastState(n) ? 0 : 1);
        }
        x.only(BAD, 0);
        x.safe().no();
        x.steps().is(1);
        x.worst().is(0);
        x.except(CLAIM, 0);
        x.check().is(2);
        x.flaw().is(1);
    }

    private static void emptyBad(int n) {
        due.about("8 to 14 BAD is empty: every state is bad, n " + n);
        Subject x = begun(n);
        x.close(STEP);
        x.only(START, lastState(n));
        x.safe().no();
        x.steps().is(0);
        x.worst().is(lastState(n));
        x.only(CLAIM, lastState(n));
        x.check().is(3);
        x.flaw().is(lastState(n));
    }

    private static void emptyClaim(int n) {
        due.about("13, 14 CLAIM is empty: every state is claimed, n " + n);
        Subject x = begun(n);
        x.only(BAD, lastState(n));
        x.check().is(3);
        x.flaw().is(lastState(n));
        x.close(BAD);
        x.check().is(0);
        x.flaw().none();
    }

    private static void allListsEmpty(int n) {
        due.about("8 to 14 all lists are empty, n " + n);
        Subject x = begun(n);
        x.safe().no();
        x.steps().is(0);
        x.reached().is(1 << n);
        x.worst().is(0);
        x.check().is(3);
        x.flaw().is(0);
    }

    private static void allStatesReached(int n) {
        due.about("8 to 14 all states are reached, one behind the other, n " + n);
        int last = 1 << n - 1;
        int beforeLast = 0;
        for (int i = 2; i < 1 << n; i++) {
            beforeLast = Subject.nextOnLongCycle(n, beforeLast);
        }
        Subject x = begun(n);
        x.longCycle();
        x.only(START, 0);
        x.close(BAD);
        x.reached().is(1 << n);
        x.safe().yes();
        x.steps().none();
        x.worst().none();
        x.check().is(0);
        x.flaw().none();
        x.drop(BAD).is(0);
        x.only(BAD, last);
        x.reached().is(1 << n);
        x.safe().no();
        x.steps().is((1 << n) - 1);
        x.worst().is(last);
        x.check().is(3);
        x.flaw().is(last);
        x.except(CLAIM, last);
        x.check().is(2);
        x.flaw().is(beforeLast);
        x.except(CLAIM, 0);
        x.check().is(1);
        x.flaw().is(0);
    }

    /** The 24th clauses alone tell START, STEP, BAD and CLAIM from lists that hold always. */
    private static void fullLists(int n) {
        due.about("8 to 14 all lists are full, n " + n);
        Subject x = begun(n);
        for (int list : LISTS) {
            x.fill(list, 23);
        }
        x.add(START, 0, 1);
        x.add(STEP, 0, 1 << n);
        x.add(BAD, 1, 0);
        x.add(CLAIM, 0, 1);
        x.safe().yes();
        x.steps().none();
        x.reached().is(1 << n - 1);
        x.depth(0).is(0);
        x.depth(1).none();
        x.worst().none();
        x.check().is(0);
        x.flaw().none();
    }

    private static void reachedWhateverIsBadOrClaimed(int n) {
        due.about("9 to 11 terms: reached from a start by steps, whatever is bad or claimed, n " + n);
        Subject x = begun(n);
        x.longCycle();
        x.only(START, 0);
        int[] others = {BAD, CLAIM};
        for (int list : others) {
            expectLongestChain(x, n);
            x.close(list);
            expectLongestChain(x, n);
        }
    }

    private static void expectLongestChain(Subject x, int n) {
        x.reached().is(1 << n);
        x.depth(1 << n - 1).is((1 << n) - 1);
    }

    /** All but one state are claimed; at first one can go to it, and then no more. */
    private static void claimShowsItForEachBadState(int n) {
        due.about("13 terms: the claim shows that nothing bad is reached, n " + n);
        for (int bad = 0; bad <= lastState(n); bad++) {
            Subject x = begun(n);
            x.only(BAD, bad);
            x.except(START, bad);
            x.except(CLAIM, bad);
            x.check().is(2);
            x.safe().no();
            x.add(STEP, lastState(n) - bad << n, bad << n);
            x.check().is(0);
            x.safe().yes();
        }
    }

    private static void safeWithABadStateThatIsNotReached(int n) {
        due.about("8 whether no bad state is reached, n " + n);
        int[] ends = {0, lastState(n)};
        for (int end : ends) {
            Subject x = begun(n);
            x.close(STEP);
            x.only(BAD, end);
            x.safe().no();
            x.except(START, end);
            x.safe().yes();
            x.drop(STEP).is(0);
            x.safe().no();
        }
    }

    private static void stepsAreNone(int n) {
        due.about("9 NONE when none is, n " + n);
        Subject x = begun(n);
        x.close(STEP);
        x.except(START, lastState(n));
        x.only(BAD, lastState(n));
        x.steps().none();
    }

    private static void stepsAreZero(int n) {
        due.about("9 a start is bad: no step, n " + n);
        int[] ends = {0, lastState(n)};
        for (int end : ends) {
            Subject x = begun(n);
            x.only(START, end);
            x.only(BAD, end);
            x.steps().is(0);
            x.close(STEP);
            x.steps().is(0);
        }
    }

    private static void stepsAreAsManyAsCanBe(int n) {
        due.about("9 a bad state is reached last of all, n " + n);
        Subject x = begun(n);
        x.longCycle();
        x.only(START, 0);
        x.only(BAD, 1 << n - 1);
        x.steps().is((1 << n) - 1);
        x.worst().is(1 << n - 1);
        x.safe().no();
        x.close(STEP);
        x.steps().none();
        x.safe().yes();
    }

    private static void depthOfFirstAndLastState(int n) {
        due.about("10 terms: states are 0 .. 2^N - 1, n " + n);
        Subject x = begun(n);
        x.only(START, 0);
        x.depth(0).is(0);
        x.depth(lastState(n)).is(1);
        x.begin(n).yes();
        x.only(START, lastState(n));
        x.depth(0).is(1);
        x.depth(lastState(n)).is(0);
    }

    private static void depthOfNoSuchState(int n) {
        due.about("10 NONE when there is none such, n " + n);
        // The states of a larger machine were there before, and all reached.
        Subject x = begun(6);
        x.depth(63).is(0);
        x.begin(n).yes();
        for (int state : noStates(n)) {
            x.depth(state).none();
        }
        x.depth(lastState(n)).is(0);
    }

    private static void depthOfAStartThatIsReachedAgain(int n) {
        due.about("10 a start is reached in 0 steps, though one can come to it later, n " + n);
        Subject x = begun(n);
        x.longCycle();
        for (int state = 0; state <= lastState(n); state++) {
            x.depth(state).is(0);
        }
        x.only(START, 1 << n - 1);
        x.depth(1 << n - 1).is(0);
        x.depth(0).is(1);
    }

    private static void depthsOfTheLongestChain(int n) {
        due.about("10 each depth from 0 to 2^N - 1, n " + n);
        Subject x = begun(n);
        x.longCycle();
        x.only(START, 0);
        int state = 0;
        for (int steps = 0; steps < 1 << n; steps++) {
            x.depth(state).is(steps);
            state = Subject.nextOnLongCycle(n, state);
        }
        x.reached().is(1 << n);
        x.depth(state).is(0);
    }

    private static void reachedIsNone(int n) {
        due.about("11 no state is reached, n " + n);
        Subject x = begun(n);
        x.close(START);
        x.reached().is(0);
        x.close(STEP);
        x.reached().is(0);
        x.drop(START).is(0);
        x.reached().is(1 << n);
    }

    private static void reachedIsOne(int n) {
        due.about("11 one state is reached, n " + n);
        int[] ends = {0, lastState(n)};
        for (int end : ends) {
            Subject x = begun(n);
            x.close(STEP);
            x.only(START, end);
            x.reached().is(1);
            x.depth(end).is(0);
        }
    }

    private static void reachedIsAllButOne(int n) {
        due.about("11 all states but one are reached, n " + n);
        int[] ends = {0, lastState(n)};
        for (int end : ends) {
            Subject x = begun(n);
            x.close(STEP);
            x.except(START, end);
            x.reached().is((1 << n) - 1);
            x.depth(end).none();
            x.depth(lastState(n) - end).is(0);
        }
    }

    private static void reachedIsAll(int n) {
        due.about("11 all states are reached: as starts, by one step, one behind the other, n " + n);
        Subject x = begun(n);
        x.close(STEP);
        x.reached().is(1 << n);
        x.drop(STEP).is(0);
        x.only(START, 0);
        x.reached().is(1 << n);
        x.longCycle();
        x.reached().is(1 << n);
    }

    private static void worstIsNone(int n) {
        due.about("12 NONE when none is, n " + n);
        Subject x = begun(n);
        x.close(STEP);
        x.except(START, 0);
        x.only(BAD, 0);
        x.worst().none();
        x.begin(n).yes();
        x.close(STEP);
        x.except(START, lastState(n));
        x.only(BAD, lastState(n));
        x.worst().none();
    }

    private static void worstIsTheFirstState(int n) {
        due.about("12 state 0 is the worst, n " + n);
        Subject x = begun(n);
        x.worst().is(0);
        x.only(BAD, 0);
        x.worst().is(0);
        x.only(START, lastState(n));
        x.worst().is(0);
    }

    private static void worstIsTheLastState(int n) {
        due.about("12 the last state is the worst, n " + n);
        Subject x = begun(n);
        x.only(BAD, lastState(n));
        x.worst().is(lastState(n));
        x.only(START, 0);
        x.worst().is(lastState(n));
    }

    private static void worstIsTheLeast(int n) {
        due.about("12 the least bad state that is reached, n " + n);
        Subject x = begun(n);
        // A start is the nearest, and still the least one is due.
        x.only(START, lastState(n));
        x.worst().is(0);
        x.steps().is(0);
        x.except(BAD, 0);
        x.worst().is(1);
        // 0 is bad here, but one can't come to it.
        x.drop(BAD).is(0);
        x.add(STEP, lastState(n) << n, 0);
        x.worst().is(1);
    }

    /** All but 0 are claimed; 0 is bad, and one can neither begin there nor go there. */
    private static Subject goodClaim(int n) {
        Subject x = begun(n);
        x.except(CLAIM, 0);
        x.only(BAD, 0);
        x.add(START, lastState(n), 0);
        x.add(STEP, lastState(n) << n, 0);
        return x;
    }

    private static void breakFirst(Subject x) {
        x.drop(START).is(0);
    }

    private static void breakSecond(Subject x) {
        x.drop(STEP).is(0);
    }

    private static void breakThird(Subject x, int n) {
        for (int left = n - 1; left >= 0; left--) {
            x.drop(BAD).is(left);
        }
    }

    private static void checkIsZero(int n) {
        due.about("13 0 when the claim shows it, n " + n);
        Subject x = goodClaim(n);
        x.check().is(0);
        x.safe().yes();
    }

    private static void checkIsOne(int n) {
        due.about("13 1: a start is not claimed, n " + n);
        Subject x = goodClaim(n);
        breakFirst(x);
        x.check().is(1);
        x.flaw().is(0);
    }

    private static void checkIsTwo(int n) {
        due.about("13 2: from a claimed state one can go to one that is not, n " + n);
        Subject x = goodClaim(n);
        breakSecond(x);
        x.check().is(2);
        x.flaw().is(1);
    }

    private static void checkIsThree(int n) {
        due.about("13 3: a claimed state is bad, n " + n);
        Subject x = goodClaim(n);
        breakThird(x, n);
        x.check().is(3);
        x.flaw().is(1);
    }

    private static void checkIsTheFirstOfSeveral(int n) {
        due.about("13 the first of 1, 2, 3 that is not so, n " + n);
        Subject x = goodClaim(n);
        breakFirst(x);
        breakSecond(x);
        x.check().is(1);
        breakThird(x, n);
        x.check().is(1);
        x.add(START, lastState(n), 0);
        x.check().is(2);
        x.add(STEP, lastState(n) << n, 0);
        x.check().is(3);
        breakFirst(x);
        x.check().is(1);
    }

    private static void checkTakesAStepToTheFirstState(int n) {
        due.about("13 one can go to state 0 alone, and it is not claimed, n " + n);
        Subject x = begun(n);
        x.close(BAD);
        x.close(START);
        x.except(CLAIM, 0);
        for (int i = 0; i < n; i++) {
            x.add(STEP, 0, 1 << n + i);
        }
        x.check().is(2);
        x.flaw().is(1);
    }

    private static void checkTakesAStepToTheLastState(int n) {
        due.about("13 one can go to the last state alone, and it is not claimed, n " + n);
        Subject x = begun(n);
        x.close(BAD);
        x.close(START);
        x.except(CLAIM, lastState(n));
        for (int i = 0; i < n; i++) {
            x.add(STEP, 1 << n + i, 0);
        }
        x.check().is(2);
        x.flaw().is(0);
    }

    private static void checkPassesStepsAmongTheUnclaimed(int n) {
        due.about("13 from claimed states one can go to claimed ones only; from others, to any, n " + n);
        Subject x = begun(n);
        x.only(START, 0);
        x.only(CLAIM, 0);
        x.except(BAD, 0);
        for (int i = 0; i < n; i++) {
            x.add(STEP, lastState(n), 1 << n + i);
        }
        x.holds(STEP, 0, 0).yes();
        x.holds(STEP, 0, lastState(n)).no();
        x.holds(STEP, lastState(n), lastState(n)).yes();
        x.check().is(0);
        x.flaw().none();
    }

    private static void checkLooksAtClaimedStatesThatAreNotReached() {
        due.about("13 a claimed state counts, though it is not reached");
        Subject x = begun(2);
        x.only(START, 0);
        x.only(BAD, 3);
        x.add(STEP, 3, 4);
        x.add(STEP, 3, 8);
        x.reached().is(1);
        x.safe().yes();
        x.check().is(3);
        x.flaw().is(3);
        x.except(CLAIM, 3);
        x.check().is(2);
        x.flaw().is(1);
    }

    private static void flawIsNone(int n) {
        due.about("14 NONE when check() is 0, n " + n);
        goodClaim(n).flaw().none();
    }

    private static void flawIsTheFirstState(int n) {
        due.about("14 state 0 is the flaw, n " + n);
        flawIsTheOnlyOne(n, 0);
    }

    private static void flawIsTheLastState(int n) {
        due.about("14 the last state is the flaw, n " + n);
        flawIsTheOnlyOne(n, lastState(n));
    }

    private static void flawIsTheOnlyOne(int n, int state) {
        Subject first = begun(n);
        first.only(START, state);
        first.except(CLAIM, state);
        first.check().is(1);
        first.flaw().is(state);
        Subject second = begun(n);
        second.only(START, state);
        second.only(CLAIM, state);
        second.check().is(2);
        second.flaw().is(state);
        Subject third = begun(n);
        third.only(BAD, state);
        third.check().is(3);
        third.flaw().is(state);
    }

    private static void flawIsTheLeast(int n) {
        due.about("14 the least state by which it is not so, n " + n);
        Subject first = begun(n);
        first.close(CLAIM);
        first.flaw().is(0);
        first.except(START, 0);
        first.flaw().is(1);
        Subject second = begun(n);
        second.add(START, 0, 0);
        second.except(CLAIM, lastState(n));
        second.check().is(2);
        second.flaw().is(0);
        Subject third = begun(n);
        third.flaw().is(0);
        third.except(BAD, 0);
        third.check().is(3);
        third.flaw().is(1);
    }
}
