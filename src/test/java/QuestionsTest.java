import java.util.ArrayList;
import java.util.List;

/**
 * "Nothing is promised beyond the answers and state changes described above": a method for which no change is
 * described makes none that another call shows; each such method, in many states of the object.
 */
public final class QuestionsTest extends Unchanged {
    public static void main(String[] args) {
        for (Case each : cases()) {
            tryAll(each, questionsOfEachKind(each.n), false);
            tryAll(each, questionsAboutNoneSuch(each.n), true);
        }
        due.end();
    }

    private static List<Ask> questionsOfEachKind(int n) {
        List<Ask> questions = new ArrayList<>(summary());
        int[] ends = {0, lastState(n)};
        for (int end : ends) {
            questions.add(x -> x.depth(end));
            for (int list : LISTS) {
                questions.add(x -> x.holds(list, end, 1));
            }
        }
        return questions;
    }

    private static List<Ask> questionsAboutNoneSuch(int n) {
        List<Ask> questions = new ArrayList<>();
        for (int list : SOME_NO_LISTS) {
            questions.add(x -> x.count(list));
            questions.add(x -> x.holds(list, 0, 0));
        }
        for (int state : someNoStates(n)) {
            questions.add(x -> x.depth(state));
            questions.add(x -> x.holds(STEP, 0, state));
            for (int list : LISTS) {
                questions.add(x -> x.holds(list, state, 0));
            }
        }
        return questions;
    }
}
