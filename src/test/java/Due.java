/** Counts answers that are not the ones that are due; the tests share it. */
final class Due {
    /** One fault can spoil millions of answers, and nobody reads so many. */
    private static final int MOST_TOLD = 200;

    private int wrong = 0;
    private int asked = 0;
    private String about = "";

    void about(String words) {
        about = words;
    }

    void number(String call, long got, long want) {
        asked++;
        if (got != want) {
            tellWrong(call + " answered " + got + ", due is " + want);
        }
    }

    void truth(String call, boolean got, boolean want) {
        number(call, got ? 1 : 0, want ? 1 : 0);
    }

    void text(String what, String got, String want) {
        asked++;
        if (!got.equals(want)) {
            tellWrong(what + " is\n" + got + "\ndue is\n" + want);
        }
    }

    private void tellWrong(String what) {
        wrong++;
        if (wrong <= MOST_TOLD) {
            System.out.println(about + ": " + what);
        } else if (wrong == MOST_TOLD + 1) {
            System.out.println(".. and more ..");
        }
    }

    void end() {
        System.out.println(wrong == 0 ? asked + " answers, all as due" : wrong + " of " + asked + " answers are not as due");
        if (wrong != 0 || asked == 0) {
            System.exit(1);
        }
    }
}
