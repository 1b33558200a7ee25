/** An object under test: its answers come with the words of the call, and its calls are held to the document's 512. */
final class Subject {
    static final int MOST_CALLS = 512;
    private static final int STEP = 1;

    private final Due due;
    private final ReachProver x;
    private int calls = 0;

    Subject(Due due, ReachProver x) {
        this.due = due;
        this.x = x;
    }

    /** What a call answered; a boolean counts 1 or 0. */
    static final class Answer {
        private final Due due;
        private final String name;
        private final int[] arguments;
        private final long whenNothing;
        final long value;

        private Answer(Due due, String name, int[] arguments, long value, long whenNothing) {
            this.due = due;
            this.name = name;
            this.arguments = arguments;
            this.value = value;
            this.whenNothing = whenNothing;
        }

        String words() {
            StringBuilder words = new StringBuilder(name).append('(');
            for (int i = 0; i < arguments.length; i++) {
                words.append(i == 0 ? "" : ", ").append(arguments[i]);
            }
            return words.append(')').toString();
        }

        void is(long want) {
            // Words for every right answer would take most of the time of the long tests.
            due.number(value == want ? name : words(), value, want);
        }

        void yes() {
            is(1);
        }

        void no() {
            is(0);
        }

        void none() {
            is(ReachProver.NONE);
        }

        void nothing() {
            is(whenNothing);
        }
    }

    Answer begin(int n) {
        return answer(x.begin(n), "begin", n);
    }

    Answer clause(int list, int plus, int minus) {
        return answer(x.clause(list, plus, minus), "clause", list, plus, minus);
    }

    Answer drop(int list) {
        return answer(x.drop(list), "drop", list);
    }

    Answer switches() {
        return answer(x.switches(), "switches");
    }

    Answer count(int list) {
        return answer(x.count(list), "count", list);
    }

    Answer holds(int list, int state, int next) {
        return answer(x.holds(list, state, next), "holds", list, state, next);
    }

    Answer safe() {
        return answer(x.safe(), "safe");
    }

    Answer steps() {
        return answer(x.steps(), "steps");
    }

    Answer depth(int state) {
        return answer(x.depth(state), "depth", state);
    }

    Answer reached() {
        return answer(x.reached(), "reached");
    }

    Answer worst() {
        return answer(x.worst(), "worst");
    }

    Answer check() {
        return answer(x.check(), "check");
    }

    Answer flaw() {
        return answer(x.flaw(), "flaw");
    }

    Answer walk(int state) {
        return answer(x.walk(state), "walk", state);
    }

    Answer arrives() {
        return answer(x.arrives(), "arrives");
    }

    private Answer answer(boolean value, String name, int... arguments) {
        countCall();
        return new Answer(due, name, arguments, value ? 1 : 0, 0);
    }

    private Answer answer(int value, String name, int... arguments) {
        countCall();
        return new Answer(due, name, arguments, value, ReachProver.NONE);
    }

    private void countCall() {
        calls++;
        if (calls == MOST_CALLS + 1) {
            due.truth("the test's 513th call of one object is made", true, false);
        }
    }

    int calls() {
        return calls;
    }

    void add(int list, int plus, int minus) {
        Answer added = clause(list, plus, minus);
        due.truth(added.value < 0 ? added.words() + " is taken" : "clause", added.value >= 0, true);
    }

    /** Clauses that hold always, until a list has so many. */
    void fill(int list, int size) {
        for (int i = (int) count(list).value; i < size; i++) {
            add(list, 1, 1);
        }
    }

    /** A clause that never holds: a list has no state then. */
    void close(int list) {
        add(list, 0, 0);
    }

    /** Clauses by which one state alone is in a list. */
    void only(int list, int state) {
        int n = n();
        for (int i = 0; i < n; i++) {
            boolean on = (state >> i & 1) != 0;
            add(list, on ? 1 << i : 0, on ? 0 : 1 << i);
        }
    }

    /** A clause by which a state is not in a list. */
    void except(int list, int state) {
        int all = (1 << n()) - 1;
        add(list, all & ~state, state);
    }

    /** Steps by which what is on goes one switch up, and from the last switch to the first. */
    void ring() {
        int n = n();
        for (int i = 0; i < n; i++) {
            goesOver(i, n + (i + 1) % n);
        }
    }

    private void goesOver(int before, int after) {
        add(STEP, 1 << after, 1 << before);
        add(STEP, 1 << before, 1 << after);
    }

    /** Steps of one cycle that passes all states: a shift register of the greatest length, with 0 taken in. */
    void longCycle() {
        int n = n();
        int top = 1 << n - 1;
        int tap = tap(n);
        int first = 1 << n;
        for (int i = 0; i + 1 < n; i++) {
            goesOver(i, n + i + 1);
        }
        if (tap != 0) {
            add(STEP, top | first, tap);
            add(STEP, 0, tap | top | first);
        }
        for (int low = 1; low < top; low <<= 1) {
            if (low != tap) {
                add(STEP, tap | first, low | top);
                add(STEP, tap | top, low | first);
            }
        }
        add(STEP, top - 1 | top | first, 0);
        add(STEP, top - 1, top | first);
    }

    /** Every switch goes one up, and the first comes on by the last and the tap, turned when all but the last are off. */
    static int nextOnLongCycle(int n, int state) {
        int top = 1 << n - 1;
        boolean first = (state & top) != 0 ^ (state & tap(n)) != 0;
        if ((state & top - 1) == 0) {
            first = !first;
        }
        return state << 1 & 2 * top - 1 | (first ? 1 : 0);
    }

    private static int tap(int n) {
        return n == 1 ? 0 : n == 5 ? 4 : 1 << n - 2;
    }

    private int n() {
        return (int) switches().value;
    }
}
