/** Compares answers with what is due and remembers whether one was wrong. */
final class Due {
    private static final int MOST_TOLD = 50;
    private int wrong = 0;
    private int asked = 0;
    private String about = "";

    void about(String what) {
        about = what;
    }

    void is(String call, long got, long want) {
        asked++;
        if (got != want) {
            wrong++;
            if (wrong <= MOST_TOLD) {
                System.out.println(about + ": " + call + " answered " + got + ", due is " + want);
            }
        }
    }

    void fail(String what) {
        is(what, 1, 0);
    }

    boolean isWrong() {
        return wrong > 0;
    }

    void close() {
        System.out.println(asked + " asked, " + wrong + " not as due");
        if (wrong > 0) {
            System.exit(1);
        }
    }
}
