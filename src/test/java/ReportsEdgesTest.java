/** The edges that the document names in part 4 of its terms, and of promises 32 to 40. */
public final class ReportsEdgesTest {
    private static final int NONE = StoneCensus.NONE;
    private static final int MIN = Integer.MIN_VALUE;
    private static final int MAX = Integer.MAX_VALUE;
    private static final Check check = new Check();

    private ReportsEdgesTest() {
    }

    private static StoneCensus houses(int n) {
        StringBuilder text = new StringBuilder();
        for (int i = 0; i < n; i++) {
            text.append("house ").append((char) ('a' + i)).append(" at 0 heads 1;");
        }
        return Texts.told(text.toString());
    }

    /** Promise 32: "a set of HOUSES, not of none": by each number of houses the last set that can be, and the first that can't. */
    private static void sets() {
        for (int n = 0; n <= 5; n++) {
            int told = 0;
            StoneCensus x = houses(n);
            for (int set = 1; set < 1 << n && told < 30; set++) {
                check.due("set " + set + " of " + n, x.report(set, 0, 35), told);
                told++;
            }
            x = houses(n);
            if (n > 0) {
                check.due("the last set", x.report((1 << n) - 1, 0, 35), 0);
            }
            for (int set : new int[] {0, 1 << n, (1 << n) + 1, 32, 33, 64, -1, -2, MIN, MIN + 1, MAX}) {
                check.due("set " + set + " of " + n, x.report(set, 0, 35), NONE);
            }
            check.due("reports", x.about(5), Math.min(n, 1));
        }
    }

    /** "0 .. 35, the second not below the first". */
    private static void bounds() {
        int[] edges = {MIN, -2, -1, 0, 1, 7, 34, 35, 36, 37, MAX};
        for (int least : edges) {
            for (int most : edges) {
                StoneCensus x = houses(1);
                boolean can = least >= 0 && most <= 35 && least <= most;
                check.due("from " + least + " to " + most, x.report(1, least, most), can ? 0 : NONE);
                check.due("reports", x.about(5), can ? 1 : 0);
                check.due("truths", x.truths(0), can ? Math.max(0, Math.min(7, most) - least + 1) : 8);
            }
        }
    }

    /** "NONE, doing nothing, if .. there are 30": also if some are untold, and not in a new province. */
    private static void thirty() {
        StoneCensus x = houses(2);
        for (int i = 0; i < 30; i++) {
            check.due("report", x.report(1, 0, 6), i);
            check.due("reports", x.about(5), i + 1);
        }
        check.due("the 31st", x.report(2, 0, 0), NONE);
        check.due("reports", x.about(5), 30);
        check.due("the 31st does not count", x.truths(0), 7 * 8);
        check.due("untell the last", x.untell(29), true);
        check.due("untell behind the last", x.untell(30), false);
        check.due("untell the first", x.untell(0), true);
        check.due("30 were told", x.report(2, 0, 0), NONE);
        check.due("28 are alike", x.truths(0), 7 * 8);
        for (int i = 1; i < 29; i++) {
            check.due("untell", x.untell(i), true);
        }
        check.due("none counts", x.truths(0), 64);
        check.due("30 all the same", x.report(2, 0, 0), NONE);
        Texts.tell(x, "house a at 0 heads 1;");
        check.due("a new province", x.report(1, 0, 0), 0);
    }

    /** Promise 33: "It is UNTOLD: true; false if it is so already, or there is none such." */
    private static void untelling() {
        StoneCensus x = houses(1);
        for (int report : new int[] {-1, 0, 1, 29, 30, MIN, MAX}) {
            check.due("untell " + report + " of none", x.untell(report), false);
        }
        x.report(1, 1, 1);
        x.report(1, 1, 2);
        for (int report : new int[] {-1, 2, 3, 29, 30, 31, 32, 33, MIN, MAX}) {
            check.due("untell " + report + " of two", x.untell(report), false);
        }
        check.due("both count", x.truths(0), 1);
        check.due("untell", x.untell(0), true);
        check.due("one counts", x.truths(0), 2);
        check.due("again", x.untell(0), false);
        x.later(3);
        check.due("again, later", x.untell(0), false);
        check.due("it was untold then, not now", x.truths(0), 2);
        check.due("reports", x.about(5), 2);
    }

    /** Promise 34: "So much later (0 .. 1000): the TIME; NONE, doing nothing, .. if it would be above 100,000." */
    private static void times() {
        StoneCensus x = new StoneCensus();
        check.due("0 at first", x.about(6), 0);
        for (int by : new int[] {-1, -1000, 1001, 1002, 100000, 100001, MIN, MAX}) {
            check.due("later " + by, x.later(by), NONE);
            check.due("the time", x.about(6), 0);
        }
        check.due("later 0", x.later(0), 0);
        for (int i = 1; i <= 99; i++) {
            check.due("later 1000", x.later(1000), 1000 * i);
        }
        check.due("later 999", x.later(999), 99999);
        check.due("later 2", x.later(2), NONE);
        check.due("the time", x.about(6), 99999);
        check.due("later 1", x.later(1), 100000);
        for (int by : new int[] {1, 2, 1000, 1001, -1, MAX}) {
            check.due("later " + by, x.later(by), NONE);
            check.due("the time", x.about(6), 100000);
        }
        check.due("later 0", x.later(0), 100000);
        Texts.tell(x, "house a at 0 heads 1;");
        check.due("the time stays", x.about(6), 100000);
        x.report(1, 0, 0);
        check.due("known before", x.truths(99999), 8);
        check.due("known then", x.truths(100000), 1);
        check.due("known later", x.truths(MAX), 1);
    }

    /** "those count that were TOLD at k or before, not UNTOLD at k or before". */
    private static void knownWhen() {
        StoneCensus x = houses(2);
        x.later(5);
        x.report(1, 3, 3);
        x.later(5);
        x.untell(0);
        int[] times = {MIN, -1, 0, 4, 5, 6, 9, 10, 11, MAX};
        for (int k : times) {
            boolean counts = k >= 5 && k < 10;
            check.due("truths " + k, x.truths(k), counts ? 8 : 64);
            check.due("least " + k, x.range(0, 0, k), counts ? 3 : 0);
            check.due("most " + k, x.range(0, 1, k), counts ? 3 : 7);
            check.due("knock " + k, x.knock(0, k), counts ? 1 : 0);
            check.due("left " + k, x.knock(1, k), counts ? 1 : 8);
            check.due("tells " + k, x.tells(0, k), counts ? 1 : 2);
            check.due("which " + k, x.tells(1, k), counts ? 2 : 3);
            check.due("odds " + k, x.odds(0, 3, 1, k), counts ? 1 : 8);
            check.due("liars " + k, x.liars(k), 0);
            check.lying("liars " + k, x, counts ? 3 : 0, 0);
        }
        // "UNTOLD at a later one or the same": then it never counts.
        x = houses(1);
        x.later(5);
        x.report(1, 3, 3);
        x.untell(0);
        for (int k : times) {
            check.due("never", x.truths(k), 8);
        }
        // Told in two times, asked of the one and the other in turn.
        x = houses(1);
        x.report(1, 0, 3);
        x.later(1);
        x.report(1, 2, 7);
        for (int i = 0; i < 3; i++) {
            check.due("at -1", x.truths(-1), 8);
            check.due("at 0", x.truths(0), 4);
            check.due("at 1", x.truths(1), 2);
        }
    }

    /** Promise 35: "TRUTHS: how many (1 without HOUSES)"; "0 .. 7 for each HOUSE, whatever is". */
    private static void truths() {
        for (int n = 0; n <= 5; n++) {
            StoneCensus x = houses(n);
            check.due("all of " + n, x.truths(0), 1 << 3 * n);
            if (n > 0) {
                int all = (1 << n) - 1;
                x.report(all, 7 * n, 35);
                check.due("one", x.truths(0), 1);
                check.due("the least of it", x.range(n - 1, 0, 0), 7);
                x.untell(0);
                x.report(all, 0, 0);
                check.due("one", x.truths(0), 1);
                check.due("the most of it", x.range(0, 1, 0), 0);
                x.untell(1);
                x.report(all, 7 * n - 1, 7 * n - 1);
                check.due("one less in one of them", x.truths(0), n);
                x.untell(2);
                if (7 * n < 35) {
                    x.report(all, 7 * n + 1, 35);
                    check.due("more than can be", x.truths(0), 0);
                }
            }
        }
        // Each set of five alone: from 1 on all but one row of it.
        for (int set = 1; set < 32; set++) {
            StoneCensus x = houses(5);
            x.report(set, 1, 35);
            int bits = Integer.bitCount(set);
            check.due("set " + set, x.truths(0), 32768 - (1 << 3 * (5 - bits)));
            x.report(set, 0, 7 * bits - 1);
            check.due("set " + set, x.truths(0), 32768 - (2 << 3 * (5 - bits)));
        }
        StoneCensus x = houses(2);
        x.goes(0);
        x.hide(1, 1);
        check.due("whatever is", x.truths(0), 64);
    }

    /** Promise 36: "RANGE what 0: the least, 1: the most; NONE if there are no TRUTHS, or one can't be." */
    private static void ranges() {
        for (int least = 0; least <= 7; least++) {
            for (int most = least; most <= 7; most++) {
                StoneCensus x = houses(2);
                x.report(2, least, most);
                check.due("least", x.range(1, 0, 0), least);
                check.due("most", x.range(1, 1, 0), most);
                check.due("of the other one", x.range(0, 0, 0), 0);
                check.due("of the other one", x.range(0, 1, 0), 7);
            }
        }
        StoneCensus x = houses(2);
        for (int wrong : new int[] {-1, 2, 3, 5, MIN, MAX}) {
            check.due("what " + wrong, x.range(0, wrong, 0), NONE);
            check.due("house " + wrong, x.range(wrong, 0, 0), NONE);
            check.due("house " + wrong, x.range(wrong, 1, 0), NONE);
        }
        x.report(1, 8, 8);
        check.due("no truths", x.range(1, 0, 0), NONE);
        check.due("no truths", x.range(1, 1, 0), NONE);
        check.due("without houses", new StoneCensus().range(0, 0, 0), NONE);
    }

    /** Promise 37: "LIARS: the fewest that count that are not so by some row; the first such row (by HOUSES, the least)". */
    private static void liars() {
        StoneCensus x = houses(1);
        for (int i = 0; i < 30; i++) {
            x.report(1, 8 + i % 28, 35);
        }
        check.due("all thirty", x.liars(0), 30);
        check.lying("all thirty", x, 0);
        check.due("before all", x.liars(-1), 0);
        x = houses(2);
        x.report(1, 7, 7);
        check.due("none", x.liars(0), 0);
        check.lying("none", x, 7, 0);
        x.report(1, 0, 0);
        check.due("one of two, the first row", x.liars(0), 1);
        check.lying("one of two", x, 0, 0);
        x.report(1, 7, 7);
        check.due("one of three", x.liars(0), 1);
        check.lying("one of three", x, 7, 0);
        x.report(3, 0, 6);
        check.due("a row with one liar: none; the first with two", x.liars(0), 2);
        check.lying("the first with two", x, 0, 0);
        x.untell(1);
        check.due("one without that", x.liars(0), 1);
        check.lying("the first with one", x, 7, 0);
        x = houses(5);
        x.report(31, 35, 35);
        check.due("none", x.liars(0), 0);
        check.lying("all full", x, 7, 7, 7, 7, 7);
        x.report(16, 0, 6);
        check.due("one", x.liars(0), 1);
        check.lying("the first row", x, 0, 0, 0, 0, 0);
        check.due("without houses", new StoneCensus().liars(0), 0);
    }

    /** Promise 38: "NONE if there are none, without HOUSES, or for another what". */
    private static void knocks() {
        for (int n = 1; n <= 5; n++) {
            StoneCensus x = houses(n);
            check.due("all alike: the first", x.knock(0, 0), 0);
            check.due("an eighth is left", x.knock(1, 0), 1 << 3 * (n - 1));
            for (int what : new int[] {-1, 2, MIN, MAX}) {
                check.due("what " + what, x.knock(what, 0), NONE);
            }
            // All but the last are known to have 0 or 1: the last tells most.
            for (int house = 0; house < n - 1; house++) {
                x.report(1 << house, 0, 1);
            }
            check.due("the last", x.knock(0, 0), n - 1);
            check.due("left", x.knock(1, 0), 1 << n - 1);
            x.report(1, 8, 8);
            check.due("no truths", x.knock(0, 0), NONE);
            check.due("no truths", x.knock(1, 0), NONE);
        }
        StoneCensus one = houses(3);
        one.report(7, 0, 0);
        check.due("one truth: the first house", one.knock(0, 0), 0);
        check.due("one truth is left", one.knock(1, 0), 1);
        // 0 0, 0 1, 1 0: two are left by either; the first.
        StoneCensus like = houses(2);
        like.report(3, 0, 1);
        check.due("like ones", like.knock(0, 0), 0);
        check.due("two at the most", like.knock(1, 0), 2);
        for (int what = -1; what <= 2; what++) {
            check.due("without houses", new StoneCensus().knock(what, 0), NONE);
        }
    }

    /** Promise 39: "TELLS what 0: how many (0 of one), 1: which, as bits"; "of like ones the least set as bits". */
    private static void telling() {
        for (int n = 0; n <= 5; n++) {
            StoneCensus x = houses(n);
            check.due("all must tell", x.tells(0, 0), n);
            check.due("all must tell", x.tells(1, 0), (1 << n) - 1);
            for (int what : new int[] {-1, 2, MIN, MAX}) {
                check.due("what " + what, x.tells(what, 0), NONE);
            }
            if (n > 0) {
                x.report((1 << n) - 1, 5, 5);
                check.due("the sum is known: all but one", x.tells(0, 0), n - 1);
                check.due("the least set", x.tells(1, 0), (1 << n - 1) - 1);
                x.report((1 << n) - 1, 0, 0);
                check.due("no truths", x.tells(0, 0), NONE);
                check.due("no truths", x.tells(1, 0), NONE);
                x.untell(0);
                check.due("one truth", x.tells(0, 0), 0);
                check.due("one truth", x.tells(1, 0), 0);
            }
        }
        // A full row less one: two truths are told apart by either of two houses, not by the third.
        StoneCensus x = houses(3);
        x.report(1, 4, 4);
        x.report(6, 1, 1);
        check.due("two truths", x.truths(0), 2);
        check.due("one house", x.tells(0, 0), 1);
        check.due("the least set", x.tells(1, 0), 0b010);
        // One house alone can tell eight: a is free, b is 7 less a.
        x = houses(2);
        x.report(3, 7, 7);
        check.due("eight truths", x.truths(0), 8);
        check.due("one house", x.tells(1, 0), 0b01);
        // a + b and a + c are known with slack: of like pairs the least.
        x = houses(4);
        x.report(0b1000, 2, 2);
        x.report(0b0111, 1, 1);
        check.due("three truths", x.truths(0), 3);
        check.due("two houses", x.tells(0, 0), 2);
        check.due("the least set", x.tells(1, 0), 0b0011);
    }

    /** Promise 40: "(0 .. 7 heads) the upper part (0), the lower part (1), in lowest terms; NONE if ..". */
    private static void odds() {
        StoneCensus x = houses(2);
        for (int heads = 0; heads <= 7; heads++) {
            check.due("upper", x.odds(1, heads, 0, 0), 1);
            check.due("lower", x.odds(1, heads, 1, 0), 8);
        }
        for (int heads : new int[] {-1, 8, 9, MIN, MAX}) {
            check.due("heads " + heads, x.odds(0, heads, 0, 0), NONE);
            check.due("heads " + heads, x.odds(0, heads, 1, 0), NONE);
        }
        for (int wrong : new int[] {-1, 2, 3, 5, MIN, MAX}) {
            check.due("part " + wrong, x.odds(0, 0, wrong, 0), NONE);
            check.due("house " + wrong, x.odds(wrong, 0, 0, 0), NONE);
        }
        x.report(3, 7, 14);
        // 1 row with a 0, 2 with 1, .. 8 with 7: of 36.
        int[][] want = {{1, 36}, {1, 18}, {1, 12}, {1, 9}, {5, 36}, {1, 6}, {7, 36}, {2, 9}};
        for (int heads = 0; heads <= 7; heads++) {
            check.due("upper " + heads, x.odds(0, heads, 0, 0), want[heads][0]);
            check.due("lower " + heads, x.odds(0, heads, 1, 0), want[heads][1]);
        }
        x.report(1, 7, 7);
        check.due("sure", x.odds(0, 7, 0, 0), 1);
        check.due("sure", x.odds(0, 7, 1, 0), 1);
        check.due("never", x.odds(0, 6, 0, 0), 0);
        check.due("never", x.odds(0, 6, 1, 0), 1);
        x.report(1, 0, 0);
        check.due("no truths", x.odds(0, 7, 0, 0), NONE);
        check.due("no truths", x.odds(0, 7, 1, 0), NONE);
        check.due("without houses", new StoneCensus().odds(0, 0, 0, 0), NONE);
    }

    public static void main(String[] args) {
        sets();
        bounds();
        thirty();
        untelling();
        times();
        knownWhen();
        truths();
        ranges();
        liars();
        knocks();
        telling();
        odds();
        check.finish();
    }
}
