/** Counts and prints the answers that are not as due. */
final class Check {
    private int right = 0;
    private int wrong = 0;

    void due(String call, long got, long want) {
        if (got == want) {
            right++;
            return;
        }
        wrong++;
        System.out.println(call + " answered " + got + ", due is " + want);
    }

    void end(String test) {
        System.out.println(test + ": " + right + " passed, " + wrong + " failed");
        if (wrong > 0 || right == 0) System.exit(1);
    }
}
