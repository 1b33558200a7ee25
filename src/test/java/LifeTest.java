/** "An object is used for at most 512 calls": each method answers as the 512th, whatever the 511 before it were. */
public final class LifeTest extends Bounds {
    private interface Call {
        Subject.Answer of(Subject x);
    }

    /** What is called again and again until a last call, round by round. */
    private static final Call[] CHANGES = {
        x -> x.begin(6), x -> x.clause(BAD, 1, 0), x -> x.walk(1), x -> x.clause(STEP, 0, 1), x -> x.walk(0),
        x -> x.drop(BAD), x -> x.walk(63),
    };
    private static final Call[] REFUSED = {
        x -> x.begin(7), x -> x.clause(4, 0, 0), x -> x.clause(STEP, -1, 0), x -> x.drop(-1), x -> x.walk(64),
    };
    private static final Call[] QUESTIONS = {
        Subject::switches, x -> x.count(STEP), x -> x.holds(STEP, 1, 0), Subject::safe, Subject::steps,
        x -> x.depth(1), Subject::reached, Subject::worst, Subject::check, Subject::flaw, Subject::arrives,
    };

    private record Last(Call call, long want) { }

    private static final Last[] LASTS = {
        new Last(x -> x.begin(2), 1),
        new Last(x -> x.begin(7), 0),
        new Last(x -> x.clause(STEP, 63, 0), 6),
        new Last(x -> x.drop(BAD), 2),
        new Last(x -> x.switches(), 3),
        new Last(x -> x.count(CLAIM), 2),
        new Last(x -> x.holds(STEP, 3, 6), 1),
        new Last(x -> x.holds(STEP, 3, 5), 0),
        new Last(x -> x.safe(), 0),
        new Last(x -> x.steps(), 2),
        new Last(x -> x.depth(2), 1),
        new Last(x -> x.reached(), 3),
        new Last(x -> x.worst(), 4),
        new Last(x -> x.check(), 2),
        new Last(x -> x.flaw(), 3),
        new Last(x -> x.walk(1), 4),
        new Last(x -> x.arrives(), 1),
    };

    public static void main(String[] args) {
        Call[][] rounds = {CHANGES, REFUSED, QUESTIONS};
        for (Call[] round : rounds) {
            lastCalls(round, QUESTIONS, 0);
        }
        // Behind its making, the machine must stay as it is.
        lastCalls(QUESTIONS, REFUSED, 200);
        lastCalls(REFUSED, QUESTIONS, 200);
        everyCallOfALongRun();
        callsBehindTheLastOneEnd();
        due.end();
    }

    /** From 1 to 2 to 4 and to 1 again; 1 is the start, 4 is bad, all but 0 and 6 are claimed; the path is 1, 2, 4. */
    private static void tellMachine(Subject x) {
        x.begin(3).yes();
        x.ring();
        x.only(START, 1);
        x.only(BAD, 4);
        x.except(CLAIM, 0);
        x.except(CLAIM, 6);
        x.walk(1).is(1);
        x.walk(2).is(2);
        x.walk(4).is(3);
    }

    private static void lastCalls(Call[] before, Call[] behind, int howManyBehind) {
        due.about("512 calls");
        for (Last last : LASTS) {
            Subject x = fresh();
            goRound(x, before, Subject.MOST_CALLS - 1 - callsToTellMachine() - howManyBehind);
            tellMachine(x);
            goRound(x, behind, howManyBehind);
            due.number("calls before the last one", x.calls(), Subject.MOST_CALLS - 1);
            last.call.of(x).is(last.want);
        }
    }

    private static int callsToTellMachine() {
        Subject x = fresh();
        tellMachine(x);
        return x.calls();
    }

    private static void goRound(Subject x, Call[] round, int calls) {
        for (int i = 0; i < calls; i++) {
            round[i % round.length].of(x);
        }
    }

    private static void everyCallOfALongRun() {
        due.about("each of 512 calls");
        Subject x = fresh();
        while (x.calls() < Subject.MOST_CALLS) {
            x.clause(STEP, 0, 0).is(0);
            x.walk(1).is(1);
            x.reached().is(2);
            x.drop(STEP).is(0);
        }
    }

    /** Their answers are free; that they throw nothing is rule 7 of LANGUAGE.md. */
    private static void callsBehindTheLastOneEnd() {
        due.about("calls behind the 512th");
        ReachProver x = new ReachProver();
        for (int i = 0; i < 4 * Subject.MOST_CALLS; i++) {
            x.begin(i % 8);
            x.clause(i % 5, 1, 0);
            x.walk(i % 2);
            x.depth(1);
            x.flaw();
            x.arrives();
            x.drop(i % 3);
        }
        due.truth("they end", true, true);
    }
}
