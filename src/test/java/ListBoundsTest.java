/** Promises 1 to 7 at their bounds, a test for each sentence: switches, lists, sets, clauses, and what holds. */
public final class ListBoundsTest extends Bounds {
    public static void main(String[] args) {
        newObjectHasOneSwitch();
        newObjectHasEmptyLists();

        beginTakesOne();
        beginTakesSix();
        beginRefusesZero();
        beginRefusesSeven();
        beginRefusesBelowZero();
        beginRefusesFarTooLarge();
        beginEmptiesFullLists();
        beginEmptiesListsForTheSameNumberToo();
        beginSetsWhatSetsMayHave();

        clauseTakesListsZeroToThree();
        clauseRefusesNoSuchList();
        clauseTakesEmptySets();
        clauseTakesAnEmptyPlus();
        clauseTakesAnEmptyMinus();
        clauseTakesSomeInBoth();
        clauseTakesTheLargestPlus();
        clauseTakesTheLargestMinus();
        clauseRefusesSetsWithOtherSwitches();
        clauseRefusesSetsBelowZero();
        clauseTakesTheNextStateInListOneAlone();
        clauseTellsFormerAndLatterStateApart();
        clauseCountsInItsListAlone();
        clauseHoldsByEachSwitch();
        clauseHoldsBySomeOfSeveral();
        clauseTakesTwentyFour();
        clauseRefusesTheTwentyFifth();
        clauseTakesTwentyFourInEachListAtOnce();
        clauseTakesTheTwentyFourthAgain();

        dropTakesListsZeroToThree();
        dropRefusesNoSuchList();
        dropRefusesAnEmptyList();
        dropRefusesAnEmptiedList();
        dropTakesTheOnlyOne();
        dropTakesTheTwentyFourth();
        dropTakesOneBehindTheOther();

        switchesIsAnyOfOneToSix();
        countIsZeroToTwentyFour();
        countRefusesNoSuchList();

        holdsInAnEmptyList();
        holdsNotInNoSuchList();
        holdsInFirstAndLastState();
        holdsNotInNoSuchState();
        holdsToFirstAndLastState();
        holdsNotToNoSuchState();
        holdsWhateverTheSecondStateInOtherLists();
        holdsNotWhenTheFirstOfTwentyFourFails();
        holdsNotWhenTheLastOfTwentyFourFails();
        due.end();
    }

    private static void newObjectHasOneSwitch() {
        due.about("1 one switch; terms: N is 1 at first");
        Subject x = fresh();
        x.switches().is(1);
        x.depth(0).is(0);
        x.depth(1).is(0);
        x.depth(2).none();
        x.clause(START, 2, 0).none();
        x.clause(START, 1, 0).is(0);
        x.clause(STEP, 4, 0).none();
        x.clause(STEP, 3, 0).is(0);
    }

    private static void newObjectHasEmptyLists() {
        due.about("1 lists are empty; terms: empty at first");
        Subject x = fresh();
        for (int list : LISTS) {
            x.count(list).is(0);
            x.drop(list).none();
            x.holds(list, 0, 0).yes();
            x.holds(list, 1, 1).yes();
            x.clause(list, 1, 1).is(0);
        }
    }

    private static void beginTakesOne() {
        due.about("2 begin(1); terms: N being 1 .. 6");
        for (int before = 1; before <= 6; before++) {
            Subject x = begun(before);
            x.begin(1).yes();
            x.switches().is(1);
            x.reached().is(2);
            x.depth(1).is(0);
            x.depth(2).none();
        }
    }

    private static void beginTakesSix() {
        due.about("2 begin(6); terms: N being 1 .. 6");
        for (int before = 1; before <= 6; before++) {
            Subject x = begun(before);
            x.begin(6).yes();
            x.switches().is(6);
            x.reached().is(64);
            x.depth(63).is(0);
            x.depth(64).none();
        }
    }

    private static void beginRefusesZero() {
        due.about("2 begin(0): false when n is not 1 .. 6");
        beginRefuses(0);
    }

    private static void beginRefusesSeven() {
        due.about("2 begin(7): false when n is not 1 .. 6");
        beginRefuses(7);
    }

    private static void beginRefusesBelowZero() {
        due.about("2 begin below 0: false when n is not 1 .. 6");
        int[] wrong = {-1, -2, -6, -7, -31, -32, -255, LEAST, LEAST + 1, LEAST + 6};
        for (int n : wrong) {
            beginRefuses(n);
        }
    }

    /** Such as come to 1 .. 6 when the bits above fall away, as in a shift, a byte or a short. */
    private static void beginRefusesFarTooLarge() {
        due.about("2 begin far too large: false when n is not 1 .. 6");
        int[] wrong = {8, 9, 14, 31, 32, 33, 38, 65, 257, 262, 65537, 65542, 1 << 30, GREATEST};
        for (int n : wrong) {
            beginRefuses(n);
        }
    }

    private static void beginRefuses(int n) {
        fresh().begin(n).no();
        for (int before = 1; before <= 6; before++) {
            Subject x = begun(before);
            x.begin(n).no();
            x.switches().is(before);
            x.reached().is(1 << before);
        }
    }

    private static void beginEmptiesFullLists() {
        due.about("2 a new machine: lists are empty, from full ones");
        for (int n = 1; n <= 6; n++) {
            Subject x = begun(7 - n);
            fillAll(x);
            x.begin(n).yes();
            for (int list : LISTS) {
                x.count(list).is(0);
                x.drop(list).none();
                x.holds(list, lastState(n), 0).yes();
                x.clause(list, 1, 1).is(0);
            }
        }
    }

    private static void beginEmptiesListsForTheSameNumberToo() {
        due.about("2 a new machine: lists are empty, with as many switches as before");
        for (int n = 1; n <= 6; n++) {
            Subject x = begun(n);
            for (int list : LISTS) {
                x.close(list);
            }
            x.reached().is(0);
            x.begin(n).yes();
            for (int list : LISTS) {
                x.count(list).is(0);
                x.holds(list, 0, 0).yes();
            }
            x.reached().is(1 << n);
        }
    }

    private static void beginSetsWhatSetsMayHave() {
        due.about("2 a new machine of n switches: sets are of these");
        Subject x = begun(6);
        int[] numbers = {1, 6, 2, 5, 3, 4, 6, 1};
        for (int n : numbers) {
            x.begin(n).yes();
            for (int list : LISTS) {
                x.clause(list, largestSet(list, n) + 1, 0).none();
                x.clause(list, largestSet(list, n), 0).is(0);
            }
        }
    }

    private static void clauseTakesListsZeroToThree() {
        due.about("3 there are four lists");
        for (int n = 1; n <= 6; n++) {
            Subject x = begun(n);
            for (int list = 0; list <= 3; list++) {
                x.clause(list, 1, 0).is(0);
                x.clause(list, 0, 1).is(1);
                for (int other = 0; other <= 3; other++) {
                    x.count(other).is(other <= list ? 2 : 0);
                }
            }
        }
    }

    private static void clauseRefusesNoSuchList() {
        due.about("3 NONE when there is no such list");
        for (int n = 1; n <= 6; n++) {
            Subject x = begun(n);
            for (int list : NO_LISTS) {
                x.clause(list, 0, 0).none();
                x.clause(list, 1, 1).none();
                x.clause(list, -1, 0).none();
            }
            for (int list : LISTS) {
                x.count(list).is(0);
            }
        }
    }

    private static void clauseTakesEmptySets() {
        due.about("3 terms: sets perhaps empty, both");
        for (int n = 1; n <= 6; n++) {
            for (int list : LISTS) {
                Subject x = begun(n);
                x.clause(list, 0, 0).is(0);
                x.holds(list, 0, 0).no();
                x.holds(list, lastState(n), lastState(n)).no();
            }
        }
    }

    private static void clauseTakesAnEmptyPlus() {
        due.about("3 terms: PLUS perhaps empty: it holds when some switch in MINUS is off");
        for (int n = 1; n <= 6; n++) {
            for (int list : LISTS) {
                Subject x = begun(n);
                x.clause(list, 0, 1).is(0);
                x.holds(list, 0, 0).yes();
                x.holds(list, 1, 0).no();
                x.holds(list, lastState(n), 0).no();
                x.holds(list, lastState(n) - 1, 0).yes();
            }
        }
    }

    private static void clauseTakesAnEmptyMinus() {
        due.about("3 terms: MINUS perhaps empty: it holds when some switch in PLUS is on");
        for (int n = 1; n <= 6; n++) {
            for (int list : LISTS) {
                Subject x = begun(n);
                x.clause(list, 1, 0).is(0);
                x.holds(list, 0, 0).no();
                x.holds(list, 1, 0).yes();
                x.holds(list, lastState(n), 0).yes();
                x.holds(list, lastState(n) - 1, 0).no();
            }
        }
    }

    private static void clauseTakesSomeInBoth() {
        due.about("3 terms: perhaps with some in both");
        for (int n = 1; n <= 6; n++) {
            for (int list : LISTS) {
                Subject x = begun(n);
                x.clause(list, 1 << n - 1, 1 << n - 1).is(0);
                x.clause(list, largestSet(list, n), largestSet(list, n)).is(1);
                x.holds(list, 0, 0).yes();
                x.holds(list, 1 << n - 1, 0).yes();
                x.holds(list, lastState(n), lastState(n)).yes();
            }
        }
    }

    private static void clauseTakesTheLargestPlus() {
        due.about("3 the largest PLUS");
        for (int n = 1; n <= 6; n++) {
            int top = 1 << n - 1;
            for (int list : LISTS) {
                Subject x = begun(n);
                x.clause(list, largestSet(list, n), 0).is(0);
                x.holds(list, 0, 0).no();
                x.holds(list, 1, 0).yes();
                x.holds(list, top, 0).yes();
                x.holds(list, 0, 1).is(list == STEP ? 1 : 0);
                x.holds(list, 0, top).is(list == STEP ? 1 : 0);
            }
        }
    }

    private static void clauseTakesTheLargestMinus() {
        due.about("3 the largest MINUS");
        for (int n = 1; n <= 6; n++) {
            int top = 1 << n - 1;
            int last = lastState(n);
            for (int list : LISTS) {
                Subject x = begun(n);
                x.clause(list, 0, largestSet(list, n)).is(0);
                x.holds(list, last, last).no();
                x.holds(list, last - 1, last).yes();
                x.holds(list, last - top, last).yes();
                x.holds(list, last, last - 1).is(list == STEP ? 1 : 0);
                x.holds(list, last, last - top).is(list == STEP ? 1 : 0);
            }
        }
    }

    private static void clauseRefusesSetsWithOtherSwitches() {
        due.about("3 NONE when the sets have other switches");
        for (int n = 1; n <= 6; n++) {
            for (int list : LISTS) {
                clauseRefusesSets(n, list, setsTooLarge(list, n));
            }
        }
    }

    private static void clauseRefusesSetsBelowZero() {
        due.about("3 NONE when the sets are below 0");
        for (int n = 1; n <= 6; n++) {
            for (int list : LISTS) {
                clauseRefusesSets(n, list, setsBelowZero(list, n));
            }
        }
    }

    private static void clauseRefusesSets(int n, int list, int[] wrong) {
        Subject x = begun(n);
        int largest = largestSet(list, n);
        for (int set : wrong) {
            x.clause(list, set, 0).none();
            x.clause(list, 0, set).none();
            x.clause(list, set, largest).none();
            x.clause(list, largest, set).none();
            x.clause(list, set, set).none();
            x.count(list).is(0);
        }
        x.clause(list, largest, 0).is(0);
    }

    private static void clauseTakesTheNextStateInListOneAlone() {
        due.about("3 terms: in list 1 its sets are of 0 .. 2 N - 1");
        for (int n = 1; n <= 6; n++) {
            Subject x = begun(n);
            for (int list : LISTS_OF_STATES) {
                x.clause(list, 1 << n, 0).none();
                x.clause(list, 0, 1 << n).none();
                x.clause(list, 1 << 2 * n - 1, 0).none();
            }
            x.clause(STEP, 1 << n, 0).is(0);
            x.clause(STEP, 0, 1 << n).is(1);
            x.clause(STEP, 1 << 2 * n - 1, 0).is(2);
            x.clause(STEP, 0, 1 << 2 * n - 1).is(3);
            x.clause(STEP, 1 << 2 * n, 0).none();
            x.clause(STEP, 0, 1 << 2 * n).none();
        }
    }

    private static void clauseTellsFormerAndLatterStateApart() {
        due.about("3 terms: N + i stands for switch i in another state");
        for (int n = 1; n <= 6; n++) {
            for (int i = 0; i < n; i++) {
                int others = lastState(n) - (1 << i);
                Subject former = begun(n);
                former.clause(STEP, 1 << i, 0).is(0);
                former.holds(STEP, 1 << i, 0).yes();
                former.holds(STEP, others, lastState(n)).no();
                Subject latter = begun(n);
                latter.clause(STEP, 1 << n + i, 0).is(0);
                latter.holds(STEP, 0, 1 << i).yes();
                latter.holds(STEP, lastState(n), others).no();
            }
        }
    }

    private static void clauseCountsInItsListAlone() {
        due.about("3 one more clause of a list: the other lists are as before");
        for (int n = 1; n <= 6; n++) {
            for (int list : LISTS) {
                Subject x = begun(n);
                x.close(list);
                for (int other : LISTS) {
                    x.count(other).is(other == list ? 1 : 0);
                    x.holds(other, 0, 0).is(other == list ? 0 : 1);
                    x.holds(other, lastState(n), lastState(n)).is(other == list ? 0 : 1);
                }
            }
        }
    }

    private static void clauseHoldsByEachSwitch() {
        due.about("3 terms: a state is the sum of 2^i for the switches i that are on; a set, too");
        for (int n = 1; n <= 6; n++) {
            for (int list : LISTS) {
                int set = 1;
                for (int i = 0; i < n; i++) {
                    clauseHoldsByTheSwitch(n, list, set);
                    set = set + set;
                }
            }
        }
    }

    private static void clauseHoldsByTheSwitch(int n, int list, int set) {
        Subject x = begun(n);
        x.add(list, set, 0);
        for (int state = 0; state <= lastState(n); state++) {
            x.holds(list, state, 0).is(state / set % 2);
        }
        x.drop(list).is(0);
        x.add(list, 0, set);
        for (int state = 0; state <= lastState(n); state++) {
            x.holds(list, state, 0).is(1 - state / set % 2);
        }
    }

    private static void clauseHoldsBySomeOfSeveral() {
        due.about("3 terms: it holds when some switch in PLUS is on, or some in MINUS is off");
        for (int list : LISTS) {
            Subject x = begun(4);
            x.add(list, 3, 12);
            x.holds(list, 12, 15).no();
            x.holds(list, 13, 15).yes();
            x.holds(list, 14, 15).yes();
            x.holds(list, 15, 15).yes();
            x.holds(list, 8, 15).yes();
            x.holds(list, 4, 15).yes();
            x.holds(list, 0, 15).yes();
        }
    }

    private static void clauseTakesTwentyFour() {
        due.about("3 terms: 24 at most in each: the 24th");
        for (int n = 1; n <= 6; n++) {
            for (int list : LISTS) {
                Subject x = begun(n);
                for (int number = 0; number < 24; number++) {
                    x.clause(list, 1, 1).is(number);
                    x.count(list).is(number + 1);
                }
            }
        }
    }

    private static void clauseRefusesTheTwentyFifth() {
        due.about("3 NONE when it has 24: the 25th");
        for (int n = 1; n <= 6; n++) {
            for (int list : LISTS) {
                Subject x = begun(n);
                x.fill(list, 24);
                x.clause(list, 1, 1).none();
                x.clause(list, 0, 0).none();
                x.count(list).is(24);
                x.holds(list, 0, 0).yes();
            }
        }
    }

    private static void clauseTakesTwentyFourInEachListAtOnce() {
        due.about("3 terms: 24 at most in each: four full lists");
        Subject x = begun(3);
        fillAll(x);
        for (int list : LISTS) {
            x.clause(list, 1, 1).none();
            x.count(list).is(24);
        }
    }

    private static void clauseTakesTheTwentyFourthAgain() {
        due.about("3 the 24th again, when it was dropped");
        for (int list : LISTS) {
            Subject x = begun(2);
            x.fill(list, 24);
            x.clause(list, 0, 0).none();
            x.drop(list).is(23);
            x.clause(list, 0, 0).is(23);
            x.clause(list, 0, 0).none();
            x.holds(list, 0, 0).no();
            x.drop(list).is(23);
            x.holds(list, 0, 0).yes();
        }
    }

    private static void dropTakesListsZeroToThree() {
        due.about("4 the last clause of a list goes, list by list");
        for (int list = 0; list <= 3; list++) {
            Subject x = begun(2);
            for (int each : LISTS) {
                x.fill(each, 3);
            }
            x.drop(list).is(2);
            for (int each : LISTS) {
                x.count(each).is(each == list ? 2 : 3);
            }
        }
    }

    private static void dropRefusesNoSuchList() {
        due.about("4 NONE when there is no such list");
        Subject x = begun(2);
        for (int list : LISTS) {
            x.fill(list, 2);
        }
        for (int list : NO_LISTS) {
            x.drop(list).none();
        }
        for (int list : LISTS) {
            x.count(list).is(2);
        }
    }

    private static void dropRefusesAnEmptyList() {
        due.about("4 NONE when it is empty");
        for (int n = 1; n <= 6; n++) {
            Subject x = begun(n);
            for (int list : LISTS) {
                x.drop(list).none();
                x.drop(list).none();
                x.count(list).is(0);
                x.clause(list, 1, 0).is(0);
            }
        }
    }

    private static void dropRefusesAnEmptiedList() {
        due.about("4 NONE when it is empty, emptied by drop or by begin");
        for (int list : LISTS) {
            Subject x = begun(2);
            x.fill(list, 2);
            x.drop(list).is(1);
            x.drop(list).is(0);
            x.drop(list).none();
            x.count(list).is(0);
            x.fill(list, 2);
            x.begin(2).yes();
            x.drop(list).none();
            x.count(list).is(0);
        }
    }

    private static void dropTakesTheOnlyOne() {
        due.about("4 the only clause goes");
        for (int list : LISTS) {
            Subject x = begun(2);
            x.close(list);
            x.holds(list, 0, 0).no();
            x.drop(list).is(0);
            x.count(list).is(0);
            x.holds(list, 0, 0).yes();
        }
    }

    private static void dropTakesTheTwentyFourth() {
        due.about("4 the 24th clause goes, and then all others");
        for (int list : LISTS) {
            Subject x = begun(2);
            x.fill(list, 22);
            x.add(list, 1, 0);
            x.add(list, 2, 0);
            x.holds(list, 1, 0).no();
            x.drop(list).is(23);
            x.holds(list, 1, 0).yes();
            x.holds(list, 2, 0).no();
            for (int left = 22; left >= 0; left--) {
                x.drop(list).is(left);
                x.count(list).is(left);
            }
            x.drop(list).none();
        }
    }

    private static void dropTakesOneBehindTheOther() {
        due.about("3 behind the others; 4 the last clause goes: each of 24");
        for (int list : LISTS) {
            Subject x = begun(5);
            for (int state = 0; state < 24; state++) {
                x.except(list, state);
            }
            for (int left = 23; left >= 0; left--) {
                x.holds(list, left, 0).no();
                x.drop(list).is(left);
                x.holds(list, left, 0).yes();
                x.holds(list, 0, 0).is(left == 0 ? 1 : 0);
            }
        }
    }

    private static void switchesIsAnyOfOneToSix() {
        due.about("5 N");
        Subject x = fresh();
        x.switches().is(1);
        for (int n = 6; n >= 1; n--) {
            x.begin(n).yes();
            x.switches().is(n);
        }
        for (int n = 1; n <= 6; n++) {
            x.begin(n).yes();
            x.switches().is(n);
        }
    }

    private static void countIsZeroToTwentyFour() {
        due.about("6 how many clauses a list has: 0, 1, 23, 24");
        for (int list : LISTS) {
            Subject x = begun(2);
            int[] sizes = {0, 1, 23, 24};
            for (int size : sizes) {
                x.fill(list, size);
                for (int each : LISTS) {
                    x.count(each).is(each == list ? size : 0);
                }
            }
        }
    }

    private static void countRefusesNoSuchList() {
        due.about("6 NONE when there is none such");
        Subject x = begun(2);
        for (int list : NO_LISTS) {
            x.count(list).none();
        }
        fillAll(x);
        for (int list : NO_LISTS) {
            x.count(list).none();
        }
    }

    private static void holdsInAnEmptyList() {
        due.about("7 all clauses of an empty list hold");
        for (int n = 1; n <= 6; n++) {
            for (int list : LISTS) {
                Subject x = begun(n);
                for (int state = 0; state <= lastState(n); state++) {
                    x.holds(list, state, lastState(n) - state).yes();
                }
            }
        }
    }

    private static void holdsNotInNoSuchList() {
        due.about("7 false when there is no such list");
        Subject x = begun(2);
        for (int list : NO_LISTS) {
            x.holds(list, 0, 0).no();
            x.holds(list, 3, 3).no();
            x.holds(list, -1, -1).no();
        }
        x.holds(0, 3, 3).yes();
        x.holds(3, 3, 3).yes();
    }

    private static void holdsInFirstAndLastState() {
        due.about("7 terms: states are 0 .. 2^N - 1");
        for (int n = 1; n <= 6; n++) {
            for (int list : LISTS) {
                Subject x = begun(n);
                x.holds(list, 0, 0).yes();
                x.holds(list, lastState(n), 0).yes();
                x.add(list, 1, 0);
                x.holds(list, 0, 0).no();
                x.holds(list, lastState(n), 0).yes();
                x.add(list, 0, 1 << n - 1);
                x.holds(list, lastState(n), 0).no();
            }
        }
    }

    private static void holdsNotInNoSuchState() {
        due.about("7 false when there is no such state");
        for (int n = 1; n <= 6; n++) {
            Subject x = begun(n);
            for (int list : LISTS) {
                for (int state : noStates(n)) {
                    x.holds(list, state, 0).no();
                    x.holds(list, state, state).no();
                }
            }
        }
    }

    private static void holdsToFirstAndLastState() {
        due.about("7 with another state for N + i in list 1");
        for (int n = 1; n <= 6; n++) {
            Subject x = begun(n);
            x.holds(STEP, 0, 0).yes();
            x.holds(STEP, 0, lastState(n)).yes();
            x.add(STEP, 1 << n, 0);
            x.holds(STEP, 0, 0).no();
            x.holds(STEP, 0, lastState(n)).yes();
            x.add(STEP, 0, 1 << 2 * n - 1);
            x.holds(STEP, 0, lastState(n)).no();
        }
    }

    private static void holdsNotToNoSuchState() {
        due.about("7 false when there is no such second state in list 1");
        for (int n = 1; n <= 6; n++) {
            Subject x = begun(n);
            for (int next : noStates(n)) {
                x.holds(STEP, 0, next).no();
                x.holds(STEP, lastState(n), next).no();
            }
        }
    }

    private static void holdsWhateverTheSecondStateInOtherLists() {
        due.about("7 for other lists the second one is of no matter");
        for (int n = 1; n <= 6; n++) {
            for (int list : LISTS_OF_STATES) {
                Subject x = begun(n);
                x.add(list, 1, 0);
                x.holds(list, 0, lastState(n)).no();
                x.holds(list, lastState(n), 0).yes();
                for (int next : noStates(n)) {
                    x.holds(list, 0, next).no();
                    x.holds(list, lastState(n), next).yes();
                }
            }
        }
    }

    private static void holdsNotWhenTheFirstOfTwentyFourFails() {
        due.about("7 all clauses: the first of 24 fails");
        for (int list : LISTS) {
            Subject x = begun(2);
            x.add(list, 2, 0);
            x.fill(list, 24);
            x.holds(list, 1, 0).no();
            x.holds(list, 2, 0).yes();
        }
    }

    private static void holdsNotWhenTheLastOfTwentyFourFails() {
        due.about("7 all clauses: the last of 24 fails");
        for (int list : LISTS) {
            Subject x = begun(2);
            x.fill(list, 23);
            x.holds(list, 1, 0).yes();
            x.add(list, 2, 0);
            x.holds(list, 1, 0).no();
            x.holds(list, 2, 0).yes();
        }
    }

    private static void fillAll(Subject x) {
        for (int list : LISTS) {
            x.fill(list, 24);
        }
    }
}
