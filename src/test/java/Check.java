/** Counts the answers of a test that are not as due, and tells each of them. */
final class Check {
    private int asDue;
    private int wrong;

    void due(String call, long got, long want) {
        if (got == want) {
            asDue++;
            return;
        }
        wrong++;
        System.out.println(call + " answered " + got + ", due is " + want);
    }

    /** The first of several answers that is not as due is told with its place. */
    void dueAll(String calls, long[] got, long... want) {
        due(calls + ": how many", got.length, want.length);
        for (int i = 0; i < got.length && i < want.length; i++) {
            due(calls + " [" + i + "]", got[i], want[i]);
        }
    }

    void end() {
        System.out.println(asDue + " answers as due, " + wrong + " not");
        if (wrong != 0 || asDue == 0) {
            System.exit(1);
        }
    }
}
