import java.util.List;
import java.util.function.ToIntFunction;

/**
 * Calls that are refused, and calls that only ask: all is then as if they had not been. Two objects have the same past, one
 * of them hears the call, and all that they can tell is laid side by side.
 */
public final class NothingDoneTest {
    private static final int NONE = StoneCensus.NONE;
    private static final int MIN = Integer.MIN_VALUE;
    private static final int MAX = Integer.MAX_VALUE;
    private static final Check check = new Check();

    private NothingDoneTest() {
    }

    /**
     * Three houses with 7, 2 and 0 heads and 6, 2 and 0 stones in the year 1, two acts to undo and one to redo, three
     * reports at three times, boxes 1 and 2 filled, knocks lying there, eight bytes on the tape.
     */
    private static StoneCensus past() {
        StoneCensus x = Texts.told("house a at 3 heads 6 jam 2;house b at 1 heads 1 habit 1;house c at 9 heads 0;draw 123;"
            + "grow (year=0)*(heads>0);");
        x.image(1);
        x.summer();
        x.hide(0, 2);
        x.image(2);
        x.comes(1);
        x.undo();
        x.report(1, 0, 3);
        x.later(1);
        x.report(6, 0, 9);
        x.untell(0);
        x.later(1);
        x.report(3, 5, 5);
        x.chase();
        int[] f = Texts.five("draw 12;", 0);
        x.feed(f[0], f[1], f[2], f[3], f[4]);
        x.end(8);
        return x;
    }

    private static void pastIsAsSaid() {
        StoneCensus x = past();
        int[][] houses = {{7, 2, 6}, {2, 0, 2}, {0, 0, 0}};
        for (int house = 0; house < 3; house++) {
            for (int what = 1; what <= 3; what++) {
                check.due("house " + house + " " + what, x.house(house, what), houses[house][what - 1]);
            }
        }
        int[] about = {3, 1, 922, 2, 1, 3, 2, 8, 6, 2};
        for (int what = 0; what < about.length; what++) {
            check.due("about " + what, x.about(what), about[what]);
        }
    }

    private static void sideBySide(String call, StoneCensus heard, StoneCensus other, boolean lying, boolean tape) {
        List<String> got = Looks.at(heard, lying, tape);
        List<String> want = Looks.at(other, lying, tape);
        check.due(call + ": as many to see", got.size(), want.size());
        for (int i = 0; i < Math.min(got.size(), want.size()); i++) {
            if (!got.get(i).equals(want.get(i))) {
                check.due(call + " left " + got.get(i) + " in place of " + want.get(i), 1, 0);
                return;
            }
        }
    }

    private static void nothingDone(String call, ToIntFunction<StoneCensus> what, int want) {
        StoneCensus heard = past();
        check.due(call, what.applyAsInt(heard), want);
        sideBySide(call, heard, past(), true, true);
    }

    private static void refused(String call, ToIntFunction<StoneCensus> what) {
        nothingDone(call, what, NONE);
    }

    private static int bit(boolean is) {
        return is ? 1 : 0;
    }

    /** "NONE, doing nothing, if one can't be" and the rest of promises 8 to 13. */
    private static void refusedActs() {
        for (int house : new int[] {-1, 3, 4, 5, 32, MIN, MAX}) {
            refused("comes to none such", x -> x.comes(house));
            refused("goes from none such", x -> x.goes(house));
            refused("moves from none such", x -> x.moves(house, 1));
            refused("moves to none such", x -> x.moves(1, house));
            refused("moves from and to none such", x -> x.moves(house, house));
            refused("hide in none such", x -> x.hide(house, 0));
            refused("steal from none such", x -> x.steal(house, 1));
        }
        refused("comes: there are 7", x -> x.comes(0));
        refused("goes: there is none", x -> x.goes(2));
        for (int house = 0; house < 3; house++) {
            int same = house;
            refused("moves: the same house", x -> x.moves(same, same));
        }
        refused("moves: nobody is there", x -> x.moves(2, 1));
        refused("moves: there are 7", x -> x.moves(1, 0));
        refused("moves: nobody is there, and there are 7", x -> x.moves(2, 0));
        for (int n : new int[] {8, 9, -1, MIN, MAX}) {
            refused("hide " + n + " of 7", x -> x.hide(0, n));
        }
        refused("hide 3 of 2", x -> x.hide(1, 3));
        refused("hide 1 of 0", x -> x.hide(2, 1));
        for (int n : new int[] {7, 99, 100, 0, -1, MIN, MAX}) {
            refused("steal " + n + " of 6", x -> x.steal(0, n));
        }
        refused("steal 1 of 0", x -> x.steal(2, 1));
    }

    /** The tape: promises 2 and 3. */
    private static void refusedBytes() {
        for (int n : new int[] {9, 20, 1600, 1601, -1, MIN, MAX}) {
            refused("end " + n + " of 8", x -> x.end(n));
        }
        nothingDone("end of all", x -> x.end(8), 8);
        StoneCensus heard = past();
        StoneCensus other = past();
        for (StoneCensus x : new StoneCensus[] {heard, other}) {
            for (int i = 0; i < 79; i++) {
                x.feed(0x20202020, 0x20202020, 0x20202020, 0x20202020, 0x20202020);
            }
            x.end(1581);
        }
        check.due("feed to 1,601", heard.feed(0, 0, 0, 0, 0), NONE);
        check.due("nothing comes", heard.about(7), 1581);
        sideBySide("feed to 1,601", heard, other, true, true);
    }

    /** Promises 32 to 34. */
    private static void refusedReports() {
        for (int set : new int[] {0, 8, 9, 16, 31, 32, -1, MIN, MAX}) {
            refused("report of the set " + set, x -> x.report(set, 0, 1));
        }
        int[][] pairs = {{-1, 0}, {-1, -1}, {0, -1}, {0, 36}, {36, 36}, {35, 36}, {36, 35}, {1, 0}, {35, 34}, {MIN, MAX}, {0, MAX}};
        for (int[] pair : pairs) {
            refused("report from " + pair[0] + " to " + pair[1], x -> x.report(7, pair[0], pair[1]));
        }
        for (int report : new int[] {0, 3, 29, 30, 31, 32, -1, MIN, MAX}) {
            nothingDone("untell " + report, x -> bit(x.untell(report)), 0);
        }
        for (int by : new int[] {-1, 1001, MIN, MAX}) {
            refused("later " + by, x -> x.later(by));
        }
        nothingDone("later 0", x -> x.later(0), 2);
        StoneCensus heard = past();
        StoneCensus other = past();
        for (StoneCensus x : new StoneCensus[] {heard, other}) {
            for (int i = 0; i < 99; i++) {
                x.later(1000);
            }
            x.later(998);
            for (int i = 3; i < 30; i++) {
                check.due("report", x.report(4, 0, 35), i);
            }
        }
        check.due("later 1, above 100,000", heard.later(1), NONE);
        check.due("later 1000, above 100,000", heard.later(1000), NONE);
        check.due("the 31st report", heard.report(1, 0, 0), NONE);
        sideBySide("the last time and report", heard, other, true, true);
    }

    /** Promises 41 and 42. */
    private static void refusedBoxes() {
        for (int box : new int[] {3, 4, -1, MIN, MAX}) {
            refused("image in " + box, x -> x.image(box));
            refused("back to " + box, x -> x.back(box));
        }
        refused("back to a box where nothing was kept", x -> x.back(0));
    }

    /** "UNDO: true; false if there is none", and REDO. */
    private static void nothingToUndo() {
        StoneCensus heard = past();
        StoneCensus other = past();
        for (StoneCensus x : new StoneCensus[] {heard, other}) {
            x.undo();
            x.undo();
        }
        check.due("undo of none", heard.undo(), false);
        check.due("undo of none again", heard.undo(), false);
        sideBySide("undo of none", heard, other, true, true);
        heard = past();
        other = past();
        heard.redo();
        other.redo();
        check.due("redo of none", heard.redo(), false);
        check.due("redo of none again", heard.redo(), false);
        sideBySide("redo of none", heard, other, true, true);
    }

    /** "NONE: a FAULT (all stays)": all but the tape and what fault() tells. */
    private static void faultsLeaveAll() {
        String[] texts = {"$", "house a at 1 heads 1;house a", "spit 1;tax 2;grow 3;draw 4", "house z at 61 heads 0;",
            "house q at 1 heads 1;house r at 1 heads 1;house s at 1 heads 1;house t at 1 heads 1;spit 5;tax 5;grow 2;draw 5;x"};
        for (String text : texts) {
            StoneCensus heard = past();
            check.due("a fault", Texts.tell(heard, text), NONE);
            check.due("it is told", heard.fault(0) > 0, true);
            check.due("the tape is empty", heard.about(7), 0);
            sideBySide("a fault in " + text, heard, past(), true, false);
        }
    }

    /** "By what is now; nothing is done": part 3 of the terms, and what is known by part 4. */
    private static void questions() {
        nothingDone("falses", x -> x.falses(), 0b001);
        nothingDone("will", x -> x.will(1, 60), 2);
        nothingDone("will 61", x -> x.will(1, 61), NONE);
        nothingDone("bowls 0", x -> x.bowls(0), 8);
        nothingDone("bowls 60", x -> x.bowls(60) >= 0 ? 1 : 0, 1);
        nothingDone("bowls 61", x -> x.bowls(61), NONE);
        nothingDone("least", x -> x.least(), 2 + 1);
        nothingDone("noon 1", x -> x.noon(1), 9 + 8);
        nothingDone("noon 0", x -> x.noon(0), NONE);
        nothingDone("missed", x -> x.missed(2), 0b001);
        nothingDone("doubled", x -> x.doubled(10), 0b010);
        nothingDone("seats", x -> x.seats(0, 4, 0), 3);
        nothingDone("seats of none such", x -> x.seats(3, 4, 0), NONE);
        nothingDone("stone", x -> x.stone(4, 0) >= 0 ? 1 : 0, 1);
        nothingDone("stone of 0 seats", x -> x.stone(0, 0), NONE);
        nothingDone("loss", x -> x.loss(0), NONE);
        nothingDone("draft", x -> x.draft(0, 9), 7);
        nothingDone("draft of too many", x -> x.draft(0, 10), NONE);
        nothingDone("marks", x -> x.marks(10, 10, 2), 49);
        nothingDone("lies", x -> x.lies(0), 0);
        nothingDone("truths", x -> x.truths(2), 8 + 8 + 8 + 7 + 6 + 5);
        nothingDone("range", x -> x.range(0, 1, 2), 5);
        nothingDone("knock", x -> x.knock(1, 2) > 0 ? 1 : 0, 1);
        nothingDone("tells", x -> x.tells(0, 2) > 0 ? 1 : 0, 1);
        nothingDone("odds", x -> x.odds(0, 6, 0, 2), 0);
        nothingDone("house", x -> x.house(0, 6), 5);
        nothingDone("sum", x -> x.sum(0), 9);
        nothingDone("fault", x -> x.fault(0), 0);
        nothingDone("about", x -> x.about(2), 922);
    }

    private static void onlyLies(String call, ToIntFunction<StoneCensus> what, int want, int lying) {
        StoneCensus heard = past();
        check.due(call, what.applyAsInt(heard), want);
        check.due(call + ": how many lie there", heard.about(9), lying);
        sideBySide(call, heard, past(), false, true);
    }

    /** "lies there then (behind NONE: nothing)": and nothing else is other than it was. */
    private static void whatLiesAlone() {
        onlyLies("leave", x -> x.leave(9999), 0, 3);
        onlyLies("leave that can't be", x -> x.leave(0), NONE, 0);
        onlyLies("leave for another tax", x -> x.leave(-1), NONE, 0);
        onlyLies("leave for another tax", x -> x.leave(10000), NONE, 0);
        onlyLies("rounds", x -> x.rounds(999), 1, 3);
        onlyLies("rounds that can't be", x -> x.rounds(8), NONE, 0);
        onlyLies("rounds for another noon", x -> x.rounds(-1), NONE, 0);
        onlyLies("rounds for another noon", x -> x.rounds(1000), NONE, 0);
        onlyLies("chase", x -> x.chase(), 2, 2);
        onlyLies("liars", x -> x.liars(2), 0, 3);
    }

    public static void main(String[] args) {
        pastIsAsSaid();
        refusedActs();
        refusedBytes();
        refusedReports();
        refusedBoxes();
        nothingToUndo();
        faultsLeaveAll();
        questions();
        whatLiesAlone();
        check.finish();
    }
}
