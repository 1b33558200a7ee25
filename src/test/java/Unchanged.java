import java.util.ArrayList;
import java.util.List;

/**
 * For the tests of calls that change nothing: in many states of the object, every method answers behind such a
 * call what it answered before it, and what it answers an object for which it was not made.
 */
abstract class Unchanged extends Bounds {
    /** So many questions go with one object, twice, that its making and they stay within its 512 calls. */
    private static final int AT_ONCE = 128;

    static final int[] SOME_NO_LISTS = {-1, 4, LEAST, GREATEST};

    interface Ask {
        Subject.Answer of(Subject x);
    }

    interface Making {
        void make(Subject x);
    }

    /** A state of the object, how to come to it, and the calls that are refused in it alone. */
    static final class Case {
        final String name;
        final int n;
        private final Making making;
        final List<Ask> refused = new ArrayList<>();

        Case(String name, int n, Making making) {
            this.name = name;
            this.n = n;
            this.making = making;
        }

        Subject made() {
            due.about(name);
            Subject x = fresh();
            making.make(x);
            return x;
        }

        Case refuses(Ask call) {
            refused.add(call);
            return this;
        }

        Case refusesToWalk() {
            for (int state = 0; state <= lastState(n); state++) {
                int to = state;
                refused.add(x -> x.walk(to));
            }
            return this;
        }

        Case refusesToDrop() {
            for (int list : LISTS) {
                refused.add(x -> x.drop(list));
            }
            return this;
        }

        Case refusesMoreIn(int list) {
            int largest = largestSet(list, n);
            refused.add(x -> x.clause(list, 0, 0));
            refused.add(x -> x.clause(list, 1, 0));
            refused.add(x -> x.clause(list, 0, 1));
            refused.add(x -> x.clause(list, largest, largest));
            return this;
        }
    }

    static int[] someNoStates(int n) {
        return new int[] {-1, 1 << n, LEAST, GREATEST};
    }

    static List<Case> cases() {
        List<Case> cases = new ArrayList<>();
        cases.add(new Case("a new object", 1, x -> { }).refusesToDrop());
        cases.add(new Case("a new object with a path", 1, x -> x.walk(1).is(1)).refusesToDrop());
        for (int n = 1; n <= 6; n++) {
            addOrdinaryCases(cases, n);
            addEmptyCases(cases, n);
        }
        for (int list : LISTS) {
            addFullList(cases, list);
        }
        addAllListsFull(cases);
        addFullPaths(cases);
        return cases;
    }

    /** All lists tell states apart; the ring goes from 1 to 2 and on, and from 1 to itself where it has one switch. */
    private static void tellOrdinary(Subject x, int n) {
        x.begin(n).yes();
        x.ring();
        x.only(START, 1);
        x.only(BAD, 1 << n - 1);
        x.except(CLAIM, 0);
        x.add(CLAIM, 1, lastState(n) - 1);
    }

    private static void addOrdinaryCases(List<Case> cases, int n) {
        int second = n == 1 ? 1 : 2;
        cases.add(new Case("no path, n " + n, n, x -> tellOrdinary(x, n))
            .refuses(x -> x.walk(0)));
        cases.add(new Case("a path of one, n " + n, n, x -> {
            tellOrdinary(x, n);
            x.walk(1).is(1);
        }).refuses(x -> x.walk(0)).refuses(x -> x.walk(n == 1 ? 0 : 1)));
        cases.add(new Case("a path of two, n " + n, n, x -> {
            tellOrdinary(x, n);
            x.walk(1).is(1);
            x.walk(second).is(2);
        }).refuses(x -> x.walk(0)).refuses(x -> x.walk(n == 1 ? 0 : second)));
    }

    private static void addEmptyCases(List<Case> cases, int n) {
        cases.add(new Case("empty lists and a path, n " + n, n, x -> {
            x.begin(n).yes();
            x.walk(lastState(n)).is(1);
        }).refusesToDrop());
        cases.add(new Case("no start, n " + n, n, x -> {
            x.begin(n).yes();
            x.close(START);
        }).refusesToWalk());
        cases.add(new Case("no step, n " + n, n, x -> {
            x.begin(n).yes();
            x.close(STEP);
            x.walk(lastState(n)).is(1);
        }).refusesToWalk());
    }

    private static void addFullList(List<Case> cases, int list) {
        cases.add(new Case("list " + list + " is full", 2, x -> {
            x.begin(2).yes();
            x.fill(list, 24);
            x.walk(0).is(1);
            x.walk(3).is(2);
        }).refusesMoreIn(list));
    }

    private static void addAllListsFull(List<Case> cases) {
        Case all = new Case("all lists are full", 3, x -> {
            tellOrdinary(x, 3);
            for (int list : LISTS) {
                x.fill(list, 24);
            }
            x.walk(1).is(1);
        });
        for (int list : LISTS) {
            all.refusesMoreIn(list);
        }
        cases.add(all);
    }

    private static void addFullPaths(List<Case> cases) {
        int[] numbers = {1, 6};
        for (int n : numbers) {
            cases.add(new Case("the path is full, n " + n, n, x -> {
                x.begin(n).yes();
                x.add(BAD, 1, 0);
                for (int length = 1; length <= 64; length++) {
                    x.walk(length % 2).is(length);
                }
            }).refusesToWalk());
        }
        cases.add(new Case("the path is full with each state once", 6, x -> {
            x.begin(6).yes();
            x.longCycle();
            int state = 0;
            for (int length = 1; length <= 64; length++) {
                x.walk(state).is(length);
                state = Subject.nextOnLongCycle(6, state);
            }
        }).refusesToWalk());
    }

    /** Whether calls change nothing in a state of the object; to those that get nothing NONE or false is due, too. */
    static void tryAll(Case each, List<Ask> calls, boolean getNothing) {
        List<List<Ask>> questions = inParts(questions(each.n));
        List<List<Ask>> rows = new ArrayList<>(questions);
        rows.addAll(rowsThatChange(each.n));
        List<long[]> wanted = new ArrayList<>();
        for (List<Ask> row : rows) {
            wanted.add(answers(each.made(), row));
        }
        for (Ask call : calls) {
            for (List<Ask> part : questions) {
                answersStay(each, part, call, getNothing);
            }
            for (int i = 0; i < rows.size(); i++) {
                Subject x = each.made();
                make(each, x, call, getNothing);
                expect(x, rows.get(i), wanted.get(i));
            }
        }
    }

    private static void answersStay(Case each, List<Ask> part, Ask call, boolean getNothing) {
        Subject x = each.made();
        long[] before = answers(x, part);
        make(each, x, call, getNothing);
        expect(x, part, before);
    }

    private static void make(Case each, Subject x, Ask call, boolean getNothing) {
        Subject.Answer answer = call.of(x);
        if (getNothing) {
            answer.nothing();
        }
        due.about(each.name + ", behind " + answer.words());
    }

    static long[] answers(Subject x, List<Ask> row) {
        long[] answers = new long[row.size()];
        for (int i = 0; i < answers.length; i++) {
            answers[i] = row.get(i).of(x).value;
        }
        return answers;
    }

    static void expect(Subject x, List<Ask> row, long[] want) {
        for (int i = 0; i < want.length; i++) {
            row.get(i).of(x).is(want[i]);
        }
    }

    /** All that can be asked of an object without a change to it. */
    private static List<Ask> questions(int n) {
        List<Ask> questions = new ArrayList<>(summary());
        for (int state = 0; state <= lastState(n); state++) {
            int from = state;
            questions.add(x -> x.depth(from));
            for (int list : LISTS_OF_STATES) {
                questions.add(x -> x.holds(list, from, 0));
            }
            for (int next = 0; next <= lastState(n); next++) {
                int to = next;
                questions.add(x -> x.holds(STEP, from, to));
            }
        }
        return questions;
    }

    static List<Ask> summary() {
        List<Ask> summary = new ArrayList<>();
        summary.add(Subject::switches);
        for (int list : LISTS) {
            summary.add(x -> x.count(list));
        }
        summary.add(Subject::arrives);
        summary.add(Subject::safe);
        summary.add(Subject::steps);
        summary.add(Subject::reached);
        summary.add(Subject::worst);
        summary.add(Subject::check);
        summary.add(Subject::flaw);
        return summary;
    }

    private static List<List<Ask>> inParts(List<Ask> questions) {
        List<List<Ask>> parts = new ArrayList<>();
        for (int from = 0; from < questions.size(); from += AT_ONCE) {
            parts.add(questions.subList(from, Math.min(from + AT_ONCE, questions.size())));
        }
        return parts;
    }

    /** What begin, clause, drop and walk answer, and what is so behind them. */
    private static List<List<Ask>> rowsThatChange(int n) {
        List<List<Ask>> rows = new ArrayList<>();
        for (int number = 1; number <= 6; number++) {
            int to = number;
            rows.add(withSummary(1, x -> x.begin(to)));
        }
        for (int list : LISTS) {
            rows.add(withSummary(1, x -> x.clause(list, 1, 0)));
            rows.add(withSummary(1, x -> x.clause(list, 0, 0)));
            rows.add(withSummary(1, x -> x.drop(list)));
            // One more than a list can have, so that the answers tell how many there were.
            rows.add(withSummary(25, x -> x.clause(list, 1, 1)));
            rows.add(withSummary(25, x -> x.drop(list)));
        }
        for (int state = 0; state <= lastState(n); state++) {
            int to = state;
            rows.add(withSummary(1, x -> x.walk(to)));
        }
        rows.add(withSummary(65, x -> x.walk(1)));
        return rows;
    }

    private static List<Ask> withSummary(int times, Ask call) {
        List<Ask> row = new ArrayList<>();
        for (int i = 0; i < times; i++) {
            row.add(call);
        }
        row.addAll(summary());
        row.add(x -> x.walk(1));
        row.add(x -> x.walk(0));
        return row;
    }
}
