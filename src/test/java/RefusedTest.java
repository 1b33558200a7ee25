import java.util.ArrayList;
import java.util.List;

/** "A call that is refused changes nothing": each refused call, in many states of the object. */
public final class RefusedTest extends Unchanged {
    public static void main(String[] args) {
        for (Case each : cases()) {
            List<Ask> calls = refusedAlways(each.n);
            calls.addAll(each.refused);
            tryAll(each, calls, true);
        }
        due.end();
    }

    /** The calls that are refused in every state of an object. */
    private static List<Ask> refusedAlways(int n) {
        List<Ask> calls = new ArrayList<>();
        int[] noNumbers = {0, 7, -1, 33, LEAST, GREATEST};
        for (int number : noNumbers) {
            calls.add(x -> x.begin(number));
        }
        for (int list : SOME_NO_LISTS) {
            calls.add(x -> x.clause(list, 0, 0));
            calls.add(x -> x.drop(list));
        }
        for (int list : LISTS) {
            int[] noSets = {-1, largestSet(list, n) + 1, LEAST, GREATEST};
            for (int set : noSets) {
                calls.add(x -> x.clause(list, set, 0));
                calls.add(x -> x.clause(list, 0, set));
            }
        }
        for (int state : someNoStates(n)) {
            calls.add(x -> x.walk(state));
        }
        return calls;
    }
}
