/** Promises 32 to 40: report, untell, later, truths, range, liars, knock, tells, odds. */
public final class ReportsTest {
    private static final int NONE = StoneCensus.NONE;
    private static final Check check = new Check();

    private ReportsTest() {
    }

    private static StoneCensus houses(int n) {
        StringBuilder text = new StringBuilder();
        for (int i = 0; i < n; i++) {
            text.append("house ").append((char) ('a' + i)).append(" at 0 heads 1;");
        }
        return Texts.told(text.toString());
    }

    private static void reporting() {
        StoneCensus x = houses(3);
        check.due("no set", x.report(0, 0, 0), NONE);
        check.due("a set of none such", x.report(8, 0, 0), NONE);
        check.due("a set below 0", x.report(-1, 0, 0), NONE);
        check.due("below 0", x.report(1, -1, 0), NONE);
        check.due("above 35", x.report(1, 0, 36), NONE);
        check.due("both above 35", x.report(1, 36, 36), NONE);
        check.due("the second below the first", x.report(1, 3, 2), NONE);
        check.due("no report", x.about(5), 0);
        check.due("report", x.report(7, 0, 35), 0);
        check.due("the same again", x.report(7, 0, 35), 1);
        check.due("report", x.report(1, 35, 35), 2);
        for (int i = 3; i < 30; i++) {
            check.due("report", x.report(2, 0, 1), i);
        }
        check.due("the 31st", x.report(2, 0, 1), NONE);
        check.due("untell", x.untell(5), true);
        check.due("30 were told all the same", x.report(2, 0, 1), NONE);
        check.due("reports", x.about(5), 30);
        check.due("without houses", new StoneCensus().report(1, 0, 1), NONE);
    }

    private static void untelling() {
        StoneCensus x = houses(1);
        check.due("none such", x.untell(0), false);
        x.report(1, 3, 3);
        check.due("none such", x.untell(1), false);
        check.due("none such", x.untell(-1), false);
        check.due("truths", x.truths(0), 1);
        check.due("untell", x.untell(0), true);
        check.due("truths", x.truths(0), 8);
        check.due("untold already", x.untell(0), false);
        x.later(1);
        check.due("untold already", x.untell(0), false);
    }

    private static void laterOn() {
        StoneCensus x = new StoneCensus();
        check.due("later 0", x.later(0), 0);
        check.due("later -1", x.later(-1), NONE);
        check.due("later 1001", x.later(1001), NONE);
        check.due("later max", x.later(Integer.MAX_VALUE), NONE);
        check.due("later 1", x.later(1), 1);
        for (int i = 1; i < 100; i++) {
            check.due("later 1000", x.later(1000), 1 + 1000 * i);
        }
        check.due("above 100,000", x.later(1000), NONE);
        check.due("the time", x.about(6), 99001);
        check.due("later 999", x.later(999), 100000);
        check.due("later 1", x.later(1), NONE);
        check.due("later 0", x.later(0), 100000);
    }

    /** Told at 0 and 5, the first untold at 8, the third told and untold at 9. */
    private static void knownInTwoTimes() {
        StoneCensus x = houses(2);
        x.report(1, 0, 3);
        x.later(5);
        x.report(2, 0, 1);
        x.later(3);
        x.untell(0);
        x.later(1);
        x.report(3, 14, 14);
        x.untell(2);
        int[] want = {64, 32, 32, 32, 32, 32, 8, 8, 8, 16, 16, 16};
        for (int k = -1; k <= 10; k++) {
            check.due("truths " + k, x.truths(k), want[k + 1]);
        }
        check.due("truths min", x.truths(Integer.MIN_VALUE), 64);
        check.due("truths max", x.truths(Integer.MAX_VALUE), 16);
        check.due("range at 4", x.range(0, 1, 4), 3);
        check.due("range at 8", x.range(0, 1, 8), 7);
        check.due("range at 5", x.range(1, 1, 5), 1);
        check.due("odds at 5", x.odds(0, 3, 1, 5), 4);
        check.due("odds at 8", x.odds(0, 3, 1, 8), 8);
        check.due("knock at 0", x.knock(0, 0), 1);
        check.due("left at 0", x.knock(1, 0), 4);
        check.due("left at 5", x.knock(1, 5), 2);
        check.due("knock at 8", x.knock(0, 8), 0);
        check.due("left at 8", x.knock(1, 8), 2);
    }

    /** Of each set but one that it is not full, and of all that it is not empty: counted here row by row. */
    private static void allSets() {
        StoneCensus x = houses(5);
        for (int set = 2; set < 32; set++) {
            x.report(set, set == 31 ? 1 : 0, 7 * Integer.bitCount(set) - 1);
        }
        int want = 0;
        for (int row = 1; row < 32768; row++) {
            boolean so = true;
            for (int house = 1; house < 5; house++) {
                so &= (row >> 3 * house & 7) != 7;
            }
            want += so ? 1 : 0;
        }
        check.due("truths of thirty reports", x.truths(0), want);
        check.due("liars of thirty reports", x.liars(0), 0);
        check.lying("the first row", x, 0, 0, 0, 0, 1);
        check.due("the most", x.range(0, 1, 0), 7);
        check.due("the most", x.range(4, 1, 0), 6);
        check.due("tells", x.tells(1, 0), 31);
        check.due("knock", x.knock(0, 0), 0);
        check.due("left", x.knock(1, 0), 7 * 7 * 7 * 7);
        x = houses(1);
        x.report(1, 1, 35);
        check.due("from 1 on", x.truths(0), 7);
        x.report(1, 7, 35);
        check.due("7", x.range(0, 0, 0), 7);
        check.due("7", x.range(0, 1, 0), 7);
        x.report(1, 0, 0);
        check.due("0 and 7", x.range(0, 0, 0), NONE);
        x.untell(1);
        x.untell(0);
        check.due("0", x.range(0, 1, 0), 0);
    }

    private static void truthsAndRanges() {
        StoneCensus x = houses(2);
        check.due("all rows", x.truths(0), 64);
        x.report(3, 3, 3);
        check.due("truths", x.truths(0), 4);
        check.due("least", x.range(0, 0, 0), 0);
        check.due("most", x.range(0, 1, 0), 3);
        x.report(1, 2, 7);
        check.due("truths", x.truths(0), 2);
        check.due("least", x.range(0, 0, 0), 2);
        check.due("most", x.range(0, 1, 0), 3);
        check.due("least", x.range(1, 0, 0), 0);
        check.due("most", x.range(1, 1, 0), 1);
        check.due("what 2", x.range(0, 2, 0), NONE);
        check.due("what -1", x.range(0, -1, 0), NONE);
        check.due("house 2", x.range(2, 0, 0), NONE);
        check.due("house -1", x.range(-1, 0, 0), NONE);
        check.due("heads as they are do not matter", x.comes(0), 2);
        check.due("truths", x.truths(0), 2);
        x.report(2, 35, 35);
        check.due("no truths", x.truths(0), 0);
        check.due("no least", x.range(0, 0, 0), NONE);
        check.due("no most", x.range(0, 1, 0), NONE);
        check.due("no house to knock at", x.knock(0, 0), NONE);
        check.due("none left", x.knock(1, 0), NONE);
        check.due("nothing tells", x.tells(0, 0), NONE);
        check.due("nothing tells", x.tells(1, 0), NONE);
        check.due("no odds", x.odds(0, 1, 0, 0), NONE);
        check.due("no odds", x.odds(0, 1, 1, 0), NONE);
        check.due("of five", houses(5).truths(0), 32768);
        check.due("without houses", new StoneCensus().truths(0), 1);
    }

    private static void lying() {
        StoneCensus x = houses(2);
        check.due("nothing is false", x.liars(0), 0);
        check.lying("the first row", x, 0, 0);
        x.report(3, 3, 3);
        x.report(1, 2, 7);
        check.due("nothing must be false", x.liars(0), 0);
        check.lying("the first row", x, 2, 1);
        x.report(2, 5, 7);
        check.due("one must be false", x.liars(0), 1);
        check.lying("the first row", x, 2, 1);
        x.report(2, 6, 6);
        check.due("one of four", x.liars(0), 1);
        check.lying("the first row", x, 2, 6);
        x.report(3, 30, 35);
        check.due("what can't be is false", x.liars(0), 2);
        check.lying("the first row", x, 2, 6);
        check.due("before all", x.liars(-1), 0);
        check.lying("the first row", x, 0, 0);
        x = houses(5);
        for (int i = 0; i < 15; i++) {
            x.report(31, 0, 0);
            x.report(31, 35, 35);
        }
        check.due("fifteen of thirty", x.liars(0), 15);
        check.lying("the first row", x, 0, 0, 0, 0, 0);
        x.untell(28);
        check.due("fourteen", x.liars(0), 14);
        check.lying("the first row", x, 7, 7, 7, 7, 7);
        x = new StoneCensus();
        check.due("without houses", x.liars(0), 0);
        check.lying("no row", x);
    }

    /** What was found for one province says nothing of the next, nor what was found of a report that was another. */
    private static void toldAnew() {
        StoneCensus x = houses(2);
        x.report(1, 3, 3);
        check.due("truths", x.truths(0), 8);
        check.due("tells", x.tells(1, 0), 2);
        x.liars(0);
        check.lying("liars", x, 3, 0);
        Texts.tell(x, "house a at 0 heads 1;house b at 0 heads 1;");
        check.due("truths of none", x.truths(0), 64);
        x.report(2, 5, 6);
        check.due("truths", x.truths(0), 16);
        check.due("tells", x.tells(1, 0), 3);
        x.liars(0);
        check.lying("liars", x, 0, 5);
        Texts.tell(x, "house a at 0 heads 1;house b at 0 heads 1;");
        x.report(2, 7, 7);
        check.due("truths", x.truths(0), 8);
        x.liars(0);
        check.lying("liars", x, 0, 7);
        check.due("odds", x.odds(1, 7, 1, 0), 1);
        x = houses(5);
        x.report(4, 0, 0);
        x.report(4, 7, 7);
        check.due("one of two", x.liars(0), 1);
        Texts.tell(x, "house a at 0 heads 1;house b at 0 heads 1;");
        x.report(1, 5, 5);
        x.report(2, 0, 0);
        check.due("no liars", x.liars(0), 0);
        check.lying("liars", x, 5, 0);
    }

    private static void knocking() {
        StoneCensus x = houses(3);
        check.due("all alike: the first", x.knock(0, 0), 0);
        check.due("left", x.knock(1, 0), 64);
        x.report(1, 0, 1);
        check.due("another one", x.knock(0, 0), 1);
        check.due("left", x.knock(1, 0), 16);
        x.report(2, 0, 3);
        check.due("the last one", x.knock(0, 0), 2);
        check.due("left", x.knock(1, 0), 8);
        check.due("what 2", x.knock(2, 0), NONE);
        check.due("what -1", x.knock(-1, 0), NONE);
        check.due("without houses", new StoneCensus().knock(0, 0), NONE);
        check.due("without houses", new StoneCensus().knock(1, 0), NONE);
    }

    private static void telling() {
        StoneCensus x = houses(5);
        check.due("all must tell", x.tells(0, 0), 5);
        check.due("all must tell", x.tells(1, 0), 31);
        x.report(0b00110, 7, 7);
        check.due("one of two", x.tells(0, 0), 4);
        check.due("the least set", x.tells(1, 0), 0b11011);
        x.report(0b01000, 3, 3);
        check.due("one is known", x.tells(0, 0), 3);
        check.due("the least set", x.tells(1, 0), 0b10011);
        x.report(0b10001, 0, 1);
        check.due("two of one", x.tells(0, 0), 3);
        check.due("the least set", x.tells(1, 0), 0b10011);
        x.report(0b10001, 1, 1);
        check.due("the one or the other", x.tells(0, 0), 2);
        check.due("the least set", x.tells(1, 0), 0b00011);
        x.report(0b00011, 0, 0);
        check.due("one truth", x.truths(0), 1);
        check.due("none of one", x.tells(0, 0), 0);
        check.due("none of one", x.tells(1, 0), 0);
        check.due("what 2", x.tells(2, 0), NONE);
        check.due("what -1", x.tells(-1, 0), NONE);
        check.due("knock, where one truth is left", x.knock(0, 0), 0);
        check.due("left", x.knock(1, 0), 1);
        check.due("without houses", new StoneCensus().tells(0, 0), 0);
        check.due("without houses", new StoneCensus().tells(1, 0), 0);
        check.due("without houses, what 2", new StoneCensus().tells(2, 0), NONE);
    }

    private static void oddsOf(StoneCensus x, int house, int heads, int upper, int lower) {
        check.due("odds upper " + house + " " + heads, x.odds(house, heads, 0, 0), upper);
        check.due("odds lower " + house + " " + heads, x.odds(house, heads, 1, 0), lower);
    }

    private static void odds() {
        StoneCensus x = houses(2);
        oddsOf(x, 0, 0, 1, 8);
        oddsOf(x, 1, 7, 1, 8);
        x.report(3, 0, 2);
        // 0 0, 0 1, 0 2, 1 0, 1 1, 2 0.
        oddsOf(x, 0, 0, 1, 2);
        oddsOf(x, 0, 1, 1, 3);
        oddsOf(x, 0, 2, 1, 6);
        oddsOf(x, 0, 3, 0, 1);
        x.report(1, 0, 1);
        oddsOf(x, 0, 0, 3, 5);
        oddsOf(x, 0, 1, 2, 5);
        x.report(1, 0, 0);
        oddsOf(x, 0, 0, 1, 1);
        check.due("heads 8", x.odds(0, 8, 0, 0), NONE);
        check.due("heads -1", x.odds(0, -1, 0, 0), NONE);
        check.due("part 2", x.odds(0, 0, 2, 0), NONE);
        check.due("part -1", x.odds(0, 0, -1, 0), NONE);
        check.due("house 2", x.odds(2, 0, 0, 0), NONE);
        check.due("house -1", x.odds(-1, 0, 0, 0), NONE);
    }

    public static void main(String[] args) {
        reporting();
        untelling();
        laterOn();
        knownInTwoTimes();
        allSets();
        truthsAndRanges();
        lying();
        toldAnew();
        knocking();
        telling();
        odds();
        check.finish();
    }
}
