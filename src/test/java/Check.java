/** Counts answers and prints each that is not the one that is due. */
final class Check {
    private int right = 0;
    private int wrong = 0;
    private String about = "";

    void about(String what) {
        about = what;
    }

    void due(String call, long got, long want) {
        if (got == want) {
            right++;
            return;
        }
        wrong++;
        if (wrong <= 50) {
            System.out.println(about + ": " + call + " answered " + got + ", due is " + want);
        }
    }

    boolean isRight() {
        return wrong == 0;
    }

    void close(String name) {
        System.out.println(name + ": " + right + " answers as due, " + wrong + " not");
        System.exit(wrong == 0 ? 0 : 1);
    }
}
