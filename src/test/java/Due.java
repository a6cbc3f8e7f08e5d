/** Counts answers that are not as due. */
final class Due {
    private int asked;
    private int wrong;
    private String within = "";

    /** What the answers from now on are asked for: it is told ahead of a wrong one. */
    void within(String what) {
        within = what.isEmpty() ? "" : "[" + what + "] ";
    }

    void is(String call, long got, long want) {
        asked++;
        if (got != want) {
            wrong++;
            System.out.println(within + call + " answered " + got + ", due is " + want);
        }
    }

    void yes(String call, boolean got) {
        is(call, got ? 1 : 0, 1);
    }

    void no(String call, boolean got) {
        is(call, got ? 1 : 0, 0);
    }

    void same(String call, String got, String want) {
        yes(call + " leaves \"" + got + "\", due is \"" + want + "\":", got.equals(want));
    }

    int asked() {
        return asked;
    }

    /** Ends the test: with exit code 1 if an answer was wrong, or none was asked. */
    void end(String name) {
        System.out.println(name + ": " + asked + " answers, " + wrong + " wrong");
        if (wrong != 0 || asked == 0) {
            System.exit(1);
        }
    }
}
