/** Counts the calls whose answer is not the one that is due, and ends a test by them. */
final class Check {
    private int wrong = 0;
    private int calls = 0;

    void due(int promise, String call, long got, long want) {
        calls++;
        if (got != want) {
            wrong++;
            System.out.println("promise " + promise + ": " + call + " answered " + got + ", due is " + want);
        }
    }

    void holds(int promise, String what, boolean holds) {
        due(promise, what, holds ? 1 : 0, 1);
    }

    int wrong() {
        return wrong;
    }

    void end() {
        System.out.println(wrong == 0 ? calls + " answers are as due" : wrong + " answers are not as due");
        if (wrong != 0) {
            System.exit(1);
        }
    }
}
