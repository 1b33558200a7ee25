/** What the tests at the document's bounds share: lists, states and sets that are, and such as are not. */
abstract class Bounds {
    static final int START = 0;
    static final int STEP = 1;
    static final int BAD = 2;
    static final int CLAIM = 3;
    static final int LEAST = Integer.MIN_VALUE;
    static final int GREATEST = Integer.MAX_VALUE;
    static final int[] LISTS = {START, STEP, BAD, CLAIM};
    static final int[] LISTS_OF_STATES = {START, BAD, CLAIM};
    static final int[] NO_LISTS = {-1, 4, -4, 5, 32, 256, LEAST, LEAST + 1, GREATEST};

    static final Due due = new Due();

    static Subject fresh() {
        return new Subject(due, new ReachProver());
    }

    static Subject begun(int n) {
        Subject x = fresh();
        x.begin(n).yes();
        return x;
    }

    static int lastState(int n) {
        return (1 << n) - 1;
    }

    static int largestSet(int list, int n) {
        return list == STEP ? (1 << 2 * n) - 1 : (1 << n) - 1;
    }

    /** One beyond either end first, then such as come to a state when the bits above it fall away. */
    static int[] noStates(int n) {
        int end = 1 << n;
        return new int[] {-1, end, -end, end + 1, 2 * end, end << 8, 1 << 16, LEAST, LEAST + 1, GREATEST};
    }

    static int[] setsBelowZero(int list, int n) {
        int end = largestSet(list, n) + 1;
        return new int[] {-1, -2, -end, 1 - end, LEAST, LEAST + 1, LEAST + end - 1};
    }

    static int[] setsTooLarge(int list, int n) {
        int end = largestSet(list, n) + 1;
        return new int[] {end, end + 1, 2 * end - 1, 2 * end, end << 8, 1 << 16, 1 << 30, GREATEST};
    }
}
