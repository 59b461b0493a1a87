/** Counts answers that are not as due, and ends the test with them. */
final class Check {
    private int wrong;
    private int asked;

    void due(String call, long got, long want) {
        asked++;
        if (got != want) {
            wrong++;
            System.out.println(call + " answered " + got + ", due is " + want);
        }
    }

    void due(String call, boolean got, boolean want) {
        due(call, got ? 1 : 0, want ? 1 : 0);
    }

    /** What lies there, one by one, and nothing behind it. */
    void lying(String call, StoneCensus x, int... want) {
        due(call + ": how many lie there", x.about(9), want.length);
        for (int i = 0; i < want.length; i++) {
            due(call + ": lies(" + i + ")", x.lies(i), want[i]);
        }
        due(call + ": lies behind the last", x.lies(want.length), StoneCensus.NONE);
        due(call + ": lies(-1)", x.lies(-1), StoneCensus.NONE);
    }

    void finish() {
        System.out.println(asked + " answers, " + wrong + " not as due");
        if (wrong != 0) {
            System.exit(1);
        }
    }
}
