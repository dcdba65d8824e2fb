/** Counts and prints the answers that are not as due. */
final class Check {
    private static final int MOST_TOLD = 60;
    private int asked;
    private int wrong;

    void due(String call, long got, long want) {
        asked++;
        if (got != want) {
            wrong++;
            // One fault early in a random run spoils all that follows: the first ones tell enough.
            if (wrong <= MOST_TOLD) {
                System.out.println(call + " answered " + got + ", due is " + want);
            }
        }
    }

    void holds(String what, boolean so) {
        due(what, so ? 1 : 0, 1);
    }

    void end() {
        System.out.println(asked + " asked, " + wrong + " not as due");
        if (wrong != 0 || asked == 0) {
            System.exit(1);
        }
    }
}
