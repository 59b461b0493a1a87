/** Promises 19 to 22 and 28 to 31: leave, least, rounds, noon, draft, chase, marks, and what lies there. */
public final class PlansTest {
    private static final int NONE = StoneCensus.NONE;
    private static final Check check = new Check();

    private PlansTest() {
    }

    private static void leaveOf(StoneCensus x, int tax, int want, int... lying) {
        check.due("leave " + tax, x.leave(tax), want);
        check.lying("leave " + tax, x, lying);
    }

    private static void leaves() {
        StoneCensus x = Texts.told("house a at 0 heads 3;house b at 0 heads 3 jam 2;");
        leaveOf(x, 6, 0, 0, 0);
        leaveOf(x, 9999, 0, 0, 0);
        leaveOf(x, 5, 1, 0, 1);
        leaveOf(x, 4, 2, 1, 1);
        leaveOf(x, 3, 3, 2, 1);
        leaveOf(x, 2, 4, 3, 1);
        leaveOf(x, 1, NONE);
        leaveOf(x, 2, 4, 3, 1);
        leaveOf(x, -1, NONE);
        leaveOf(x, 2, 4, 3, 1);
        leaveOf(x, 10000, NONE);
        check.due("least", x.least(), 2);
        check.due("nothing is done", x.sum(1) + x.about(3), 0);
        x.hide(0, 3);
        leaveOf(x, 6, 0, 0, 0);
        check.due("least in place of those hidden", x.least(), 2);
        check.due("least leaves what lies there", x.about(9), 2);
    }

    private static void leavesByLaws() {
        StoneCensus x = Texts.told("house a at 0 heads 3;house b at 0 heads 2;tax stones*stones;");
        leaveOf(x, 13, 0, 0, 0);
        leaveOf(x, 12, 1, 0, 1);
        leaveOf(x, 10, 1, 0, 1);
        leaveOf(x, 9, 1, 1, 0);
        leaveOf(x, 7, 2, 1, 1);
        leaveOf(x, 4, 3, 1, 2);
        leaveOf(x, 3, 3, 2, 1);
        x = Texts.told("house a at 0 heads 3;house b at 0 heads 3;house c at 0 heads 3;tax stones*stones;");
        leaveOf(x, 17, 2, 0, 1, 1);
        leaveOf(x, 14, 3, 0, 1, 2);
        leaveOf(x, 12, 3, 1, 1, 1);
        leaveOf(x, 0, 9, 3, 3, 3);
        x = Texts.told("house a at 0 heads 7;tax (stones=3)*5+(stones<3)*9+(stones>3)*9;");
        leaveOf(x, 5, 4, 4);
        leaveOf(x, 4, NONE);
        check.due("least is in between", x.least(), 5);
        // Only hidden ones spit: with none hidden it shows.
        x = Texts.told("house a at 0 heads 5 jam 3;spit hidden;tax stones+year;");
        leaveOf(x, 99, 3, 3);
        leaveOf(x, 3, 3, 3);
        leaveOf(x, 2, NONE);
        x.summer();
        check.due("least by the year", x.least(), 4);
        x = Texts.told("house a at 0 heads 7;house b at 0 heads 7;house c at 0 heads 7;house d at 0 heads 7;"
            + "house e at 0 heads 7;tax stones>0;");
        leaveOf(x, 4, 7, 0, 0, 0, 0, 7);
        leaveOf(x, 0, 35, 7, 7, 7, 7, 7);
        check.due("least of 35", x.least(), 0);
        Texts.tell(x, "house a at 0 heads 5;house b at 0 heads 2 jam 3;");
        leaveOf(x, 9999, NONE);
        check.due("least, if one shows whatever is hidden", x.least(), NONE);
        x = new StoneCensus();
        leaveOf(x, 0, 0);
        leaveOf(x, -1, NONE);
        check.due("least without houses", x.least(), 0);
    }

    /** Bowls: 4, 3, 1, 6. */
    private static StoneCensus counted() {
        StoneCensus x = Texts.told("house a at 5 heads 4;house b at 2 heads 3;house c at 9 heads 1;house d at 0 heads 6;");
        x.summer();
        return x;
    }

    private static void roundsBy(StoneCensus x, int noon, int want, int... lying) {
        check.due("rounds " + noon, x.rounds(noon), want);
        check.lying("rounds " + noon, x, lying);
    }

    private static void rounds() {
        StoneCensus x = counted();
        roundsBy(x, 999, 1, 0, 0, 0, 0);
        roundsBy(x, 23, 1, 0, 0, 0, 0);
        roundsBy(x, 22, 2, 0, 0, 0, 1);
        roundsBy(x, 16, 2, 0, 0, 1, 1);
        roundsBy(x, 15, 2, 0, 1, 0, 1);
        roundsBy(x, 14, 2, 0, 1, 0, 1);
        roundsBy(x, 13, 3, 0, 0, 1, 2);
        roundsBy(x, 11, 3, 0, 1, 2, 1);
        roundsBy(x, 10, 4, 0, 1, 2, 3);
        roundsBy(x, 9, NONE);
        roundsBy(x, 10, 4, 0, 1, 2, 3);
        roundsBy(x, 1000, NONE);
        roundsBy(x, 10, 4, 0, 1, 2, 3);
        roundsBy(x, -1, NONE);
        roundsBy(new StoneCensus(), 0, 0);
        roundsBy(Texts.told("house a at 3 heads 5;"), 2, NONE);
        roundsBy(Texts.told("house a at 3 heads 5;"), 3, 1, 0);
    }

    private static void noons() {
        StoneCensus x = counted();
        int[] want = {NONE, 23, 14, 11, 10, 10, NONE};
        for (int n = 0; n < want.length; n++) {
            check.due("noon " + n, x.noon(n), want[n]);
        }
        check.due("noon -1", x.noon(-1), NONE);
        check.due("noon without houses", new StoneCensus().noon(1), NONE);
        x.steal(2, 1);
        check.due("an empty bowl is walked to", x.noon(5), 9);
        check.due("nothing lies there by it", x.about(9), 0);
    }

    private static void drafts() {
        StoneCensus x = Texts.told("house a at 0 heads 3;house b at 0 heads 5;house c at 0 heads 5;");
        int[][] want = {{0, 0, 0}, {0, 1, 0}, {0, 1, 1}, {0, 2, 1}, {0, 2, 2}, {1, 2, 2}, {1, 3, 2}, {1, 3, 3}};
        for (int n = 0; n < want.length; n++) {
            for (int house = 0; house < 3; house++) {
                check.due("draft " + house + " " + n, x.draft(house, n), want[n][house]);
            }
        }
        check.due("draft of all", x.draft(2, 13), 5);
        check.due("draft of more than all", x.draft(2, 14), NONE);
        check.due("draft of -1", x.draft(2, -1), NONE);
        check.due("draft of none such", x.draft(3, 1), NONE);
        check.due("draft of house -1", x.draft(-1, 1), NONE);
        check.due("nobody goes", x.sum(0), 13);
        x.hide(1, 5);
        check.due("hidden ones are drafted", x.draft(1, 1), 1);
        StringBuilder full = new StringBuilder();
        for (char c = 'a'; c < 'f'; c++) {
            full.append("house ").append(c).append(" at 1 heads 7;");
        }
        x = Texts.told(full.toString());
        check.due("draft of 35", x.draft(4, 35), 7);
        check.due("draft of 36", x.draft(4, 36), NONE);
    }

    private static void chaseIn(String text, int... want) {
        StoneCensus x = text.isEmpty() ? new StoneCensus() : Texts.told(text);
        x.liars(0);
        check.due("chase in " + text, x.chase(), want.length == 0 ? NONE : want.length);
        check.lying("chase in " + text, x, want);
    }

    private static void chases() {
        chaseIn("");
        chaseIn("house a at 7 heads 0;", 0);
        chaseIn("house a at 7 heads 0;house b at 3 heads 1;", 0, 0);
        chaseIn("house a at 7 heads 0;house b at 3 heads 1;house c at 1 heads 1;", 1, 1);
        chaseIn("house a at 7 heads 0;house b at 9 heads 1;house c at 1 heads 1;", 0, 0);
        chaseIn("house a at 1 heads 0;house b at 1 heads 1;house c at 1 heads 1;", 1, 1);
        chaseIn("house a at 1 heads 0;house b at 2 heads 1;house c at 3 heads 1;house d at 4 heads 1;", 1, 2, 2, 1);
        // By the road: b, e, d, c, a.
        chaseIn("house a at 40 heads 0;house b at 10 heads 1;house c at 30 heads 1;house d at 20 heads 1;"
            + "house e at 10 heads 1;", 2, 3, 4, 2, 3, 4);
    }

    private static void marks() {
        StoneCensus x = new StoneCensus();
        int[][] want = {{10, 10, 2, 49}, {10, 10, 3, 33}, {10, 10, 10, 10}, {10, 10, 0, 200}, {5, 3, 3, 5}, {3, 2, 3, NONE},
            {2, 3, 3, NONE}, {4, 0, 0, 4}, {0, 4, 0, 4}, {0, 0, 0, 0}, {1, 1, 0, 200}, {1, 1, 1, 1}, {60, 60, 60, 60},
            {60, 60, 1, 200}, {60, 60, 18, 199}, {60, 60, 19, 189}, {60, 60, 59, 61}, {61, 1, 1, NONE}, {1, 61, 1, NONE},
            {-1, 1, 0, NONE}, {1, -1, 0, NONE}, {1, 1, -1, NONE}, {7, 7, 2, 24}};
        for (int[] w : want) {
            check.due("marks " + w[0] + " " + w[1] + " " + w[2], x.marks(w[0], w[1], w[2]), w[3]);
        }
    }

    private static void lying() {
        StoneCensus x = counted();
        x.rounds(10);
        x.comes(0);
        x.least();
        x.noon(2);
        check.due("it goes on lying there", x.lies(3), 3);
        check.due("lies(4)", x.lies(4), NONE);
        check.due("lies(max)", x.lies(Integer.MAX_VALUE), NONE);
        check.due("lies(min)", x.lies(Integer.MIN_VALUE), NONE);
        x.chase();
        check.lying("chase", x, 0, 1, 1, 0);
        x.liars(0);
        check.lying("liars", x, 0, 0, 0, 0);
    }

    public static void main(String[] args) {
        leaves();
        leavesByLaws();
        rounds();
        noons();
        drafts();
        chases();
        marks();
        lying();
        check.finish();
    }
}
