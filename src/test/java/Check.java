/** Counts answers, prints the wrong ones, and ends the run with exit code 1 if there was one. */
final class Check {
    private int asked = 0;
    private int wrong = 0;
    private String about = "";

    void on(String subject) {
        about = subject + ": ";
    }

    void same(String call, long got, long due) {
        same(call, Long.toString(got), Long.toString(due));
    }

    void same(String call, boolean got, boolean due) {
        same(call, Boolean.toString(got), Boolean.toString(due));
    }

    void same(String call, String got, String due) {
        asked++;
        if (!got.equals(due)) {
            wrong++;
            System.out.println(about + call + " answered " + got + ", due is " + due);
        }
    }

    int wrongOnes() {
        return wrong;
    }

    void end() {
        System.out.println(asked + " answers, " + wrong + " of them wrong");
        if (wrong != 0 || asked == 0) {
            System.exit(1);
        }
    }
}
