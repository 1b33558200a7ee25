import java.util.ArrayList;
import java.util.List;

/** Promise 1, a new object: its switches, lists and path are its own, whatever is called of another object meanwhile. */
public final class TwoObjectsTest extends Unchanged {
    public static void main(String[] args) {
        List<Case> cases = cases();
        for (Case one : cases) {
            List<Ask> row = everyMethod(one.n);
            long[] want = answers(one.made(), row);
            for (Case other : cases) {
                answersBeside(one, other, row, want);
            }
        }
        due.end();
    }

    private static void answersBeside(Case one, Case other, List<Ask> row, long[] want) {
        Subject asked = one.made();
        // What it has found out for these answers must still be its own behind the calls of the other one.
        answers(asked, summaryAndDepths(one.n));
        Subject unasked = one.made();
        answers(other.made(), everyMethod(other.n));
        due.about(one.name + ", beside another object: " + other.name);
        expect(asked, row, want);
        expect(unasked, row, want);
    }

    private static List<Ask> summaryAndDepths(int n) {
        List<Ask> questions = new ArrayList<>(summary());
        for (int state = 0; state <= lastState(n); state++) {
            int at = state;
            questions.add(x -> x.depth(at));
        }
        return questions;
    }

    private static List<Ask> everyMethod(int n) {
        List<Ask> row = summaryAndDepths(n);
        for (int state = 0; state <= lastState(n); state++) {
            int at = state;
            row.add(x -> x.holds(at % LISTS.length, at, 0));
        }
        row.add(x -> x.walk(1));
        row.add(x -> x.walk(0));
        row.add(Subject::arrives);
        for (int list : LISTS) {
            row.add(x -> x.drop(list));
            row.add(x -> x.clause(list, 1, 0));
        }
        row.addAll(summary());
        return row;
    }
}
