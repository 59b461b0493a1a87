/** Promises 1 to 5: a new object, feed, end, province, fault. */
public final class TextTest {
    private static final int NONE = StoneCensus.NONE;
    private static final Check check = new Check();

    private TextTest() {
    }

    private static void newObject() {
        StoneCensus x = new StoneCensus();
        for (int what = 0; what <= 9; what++) {
            check.due("new: about " + what, x.about(what), 0);
        }
        for (int what = 0; what <= 5; what++) {
            check.due("new: sum " + what, x.sum(what), 0);
        }
        check.due("new: house", x.house(0, 0), NONE);
        check.due("new: undo", x.undo(), false);
        check.due("new: redo", x.redo(), false);
        check.due("new: back", x.back(0), NONE);
        check.due("new: lies", x.lies(0), NONE);
        check.due("new: fault(0)", x.fault(0), 0);
        check.due("new: fault(1)", x.fault(1), NONE);
    }

    private static void feedAndEnd() {
        StoneCensus x = new StoneCensus();
        check.due("end(0)", x.end(0), 0);
        check.due("end(1) of nothing", x.end(1), NONE);
        for (int n = 1; n <= 80; n++) {
            check.due("feed", x.feed(0x20202020, 0x20202020, 0x20202020, 0x20202020, 0x20202020), 20 * n);
        }
        check.due("feed above 1,600", x.feed(0, 0, 0, 0, 0), NONE);
        check.due("nothing came", x.about(7), 1600);
        check.due("end(1601)", x.end(1601), NONE);
        check.due("end(-1)", x.end(-1), NONE);
        check.due("end(min)", x.end(Integer.MIN_VALUE), NONE);
        check.due("still 1600", x.about(7), 1600);
        check.due("end(1581)", x.end(1581), 1581);
        check.due("feed to 1601", x.feed(0, 0, 0, 0, 0), NONE);
        check.due("end(1580)", x.end(1580), 1580);
        check.due("feed to 1600", x.feed(0x20202020, 0x20202020, 0x20202020, 0x20202020, 0x20202024), 1600);
        check.due("province", x.province(), NONE);
        check.due("fault", x.fault(0), 1);
        check.due("the last byte is the lowest", x.fault(1), 1599);
        check.due("the tape is empty", x.about(7), 0);
    }

    /** Which byte of which number comes where: the sign that is no token moves through all twenty places. */
    private static void orderOfBytes() {
        for (int at = 0; at < 20; at++) {
            StoneCensus x = new StoneCensus();
            int[] n = {0x20202020, 0x20202020, 0x20202020, 0x20202020, 0x20202020};
            n[at / 4] += 0xC0 << 8 * (3 - at % 4);
            x.feed(n[0], n[1], n[2], n[3], n[4]);
            check.due("province", x.province(), NONE);
            check.due("fault of a byte above 127", x.fault(0), 1);
            check.due("its place", x.fault(1), at);
        }
    }

    private static void provinceTold() {
        StoneCensus x = new StoneCensus();
        check.due("an empty text", x.province(), 0);
        check.due("blanks alone", Texts.tell(x, " \n \n"), 0);
        check.due("laws alone", Texts.tell(x, "draw 5;spit 1;tax 2;grow 3;"), 0);
        check.due("the seed", x.about(2), 5);
        check.due("units", x.about(8), 3);
        String five = "house a at 60 heads 7 jam 9 habit 9;house b at 0heads 0;\nhouse province at 007 heads 0007;"
            + "house abcdefgh at 5 heads 1habit 2;draw 999;house e at 5 heads 3 jam 0;";
        check.due("letter behind an N", Texts.tell(x, five), NONE);
        check.due("its fault", x.fault(0), 1);
        check.due("its place is that of the N", x.fault(1), five.indexOf("0heads"));
        check.due("all stays: the seed", x.about(2), 5);
        check.due("all stays: units", x.about(8), 3);
        five = five.replace("0heads", "0 heads").replace("1habit", "1 habit");
        check.due("five houses", Texts.tell(x, five), 5);
        check.due("no fault", x.fault(0), 0);
        check.due("no place", x.fault(1), NONE);
        check.due("fault(2)", x.fault(2), NONE);
        check.due("fault(-1)", x.fault(-1), NONE);
        int[][] want = {{60, 7, 0, 0, 9, 9}, {0, 0, 0, 0, 0, 0}, {7, 7, 0, 0, 0, 0}, {5, 1, 0, 0, 0, 2}, {5, 3, 0, 0, 0, 0}};
        for (int house = 0; house < 5; house++) {
            for (int what = 0; what < 6; what++) {
                check.due("house " + house + " what " + what, x.house(house, what), want[house][what]);
            }
        }
        check.due("no units", x.about(8), 0);
        check.due("the seed", x.about(2), 999);
        check.due("close together", Texts.tell(x, "house a at1heads2jam3;spit(heads)+1;"), NONE);
        check.due("letters behind 1", x.fault(1), 10);
        check.due("close together", Texts.tell(x, "house a at1 heads2 jam3;spit(heads)+1;tax(1<2)and(not(3));"), 1);
        check.due("units", x.about(8), 3 + 6);
    }

    private static void provinceStartsAgain() {
        StoneCensus x = Texts.told("house a at 1 heads 3;draw 7;");
        x.summer();
        x.comes(0);
        x.undo();
        x.image(1);
        x.report(1, 0, 3);
        x.later(5);
        x.chase();
        Texts.tell(x, "house a at 1 heads 3;house a");
        check.due("all stays: the year", x.about(1), 1);
        check.due("all stays: acts", x.about(3), 1);
        check.due("all stays: acts to redo", x.about(4), 1);
        check.due("all stays: reports", x.about(5), 1);
        check.due("all stays: what lies", x.about(9), 1);
        check.due("all stays: bowls", x.house(0, 3), 3);
        check.due("the tape is empty", x.about(7), 0);
        check.due("told again", Texts.tell(x, "house a at 1 heads 3;draw 7;"), 1);
        for (int what = 3; what <= 5; what++) {
            check.due("new: about " + what, x.about(what), 0);
        }
        check.due("the year", x.about(1), 0);
        check.due("the seed", x.about(2), 7);
        check.due("the time stays", x.about(6), 5);
        check.due("nothing lies there", x.about(9), 0);
        check.due("an empty bowl", x.house(0, 3), 0);
        check.due("boxes are empty", x.back(1), NONE);
        check.due("undo", x.undo(), false);
        check.due("redo", x.redo(), false);
        check.due("truths", x.truths(9), 8);
    }

    private static void faultOf(String text, int fault, int place) {
        StoneCensus x = new StoneCensus();
        check.due("province of " + text, Texts.tell(x, text), fault == 0 ? Math.max(0, x.about(0)) : NONE);
        check.due("fault of " + text, x.fault(0), fault);
        check.due("place of " + text, x.fault(1), place);
    }

    private static void faultsOfTokens() {
        faultOf("$", 1, 0);
        faultOf(" \t", 1, 1);
        faultOf("House", 1, 0);
        faultOf("house a at 1,", 1, 12);
        faultOf("abcdefghi", 1, 0);
        faultOf("house abcdefghi at 1 heads 1;", 1, 6);
        faultOf("spit 12345;", 1, 5);
        faultOf("spit 1234x;", 1, 5);
        faultOf("spit 1heads", 1, 5);
        faultOf("spit 1 heads", 2, 7);
        faultOf("spit heads1;", 2, 10);
        faultOf("spit 9999;", 0, NONE);
        faultOf("house a at 61$", 4, 11);
        faultOf("spit 1 \u0000;", 1, 7);
        faultOf("at $", 2, 0);
    }

    private static void faultsOfLines() {
        faultOf("house", 2, 5);
        faultOf("house  \n", 2, 8);
        faultOf("house a", 2, 7);
        faultOf("house 1 at 1 heads 1;", 2, 6);
        String reserved = "house at heads jam habit spit tax grow draw or and not hidden stones year";
        for (String word : reserved.split(" ")) {
            faultOf("house " + word + " at 1 heads 1;", 2, 6);
            faultOf("house " + word + "x at 1 heads 1;", 0, NONE);
        }
        for (String word : "province line name e both one sum term unit n z".split(" ")) {
            faultOf("house " + word + " at 1 heads 1;", 0, NONE);
        }
        faultOf("house a at heads 1;", 2, 11);
        faultOf("house a heads 1;", 2, 8);
        faultOf("house a at 1 jam 1;", 2, 13);
        faultOf("house a at 1 heads 1", 2, 20);
        faultOf("house a at 1 heads 1 jam;", 2, 24);
        faultOf("house a at 1 heads 1 jam 1 jam 1;", 2, 27);
        faultOf("house a at 1 heads 1 habit 1 jam 1;", 2, 29);
        faultOf("house a at 61 heads 1;", 4, 11);
        faultOf("house a at 60 heads 8;", 4, 20);
        faultOf("house a at 60 heads 7 jam 10;", 4, 26);
        faultOf("house a at 60 heads 7 habit 10;", 4, 28);
        faultOf("house a at 60 heads 7;house a", 3, 28);
        faultOf("house a at 60 heads 7;house b at 1 heads 1;house b", 3, 49);
        faultOf("draw 1000;", 4, 5);
        faultOf("draw;", 2, 4);
        faultOf("draw 999;draw 1;", 2, 9);
        faultOf("spit 1;tax 1;spit 1;", 2, 13);
        faultOf("tax 1;grow 1;tax 1;", 2, 13);
        faultOf("grow 1;tax 1;grow 1;", 2, 13);
        faultOf(";", 2, 0);
        faultOf("or", 2, 0);
        StringBuilder six = new StringBuilder();
        for (int i = 0; i < 5; i++) {
            six.append("house ").append((char) ('a' + i)).append(" at 1 heads 1;");
        }
        int place = six.length();
        faultOf(six.toString(), 0, NONE);
        faultOf(six + "house $", 2, place);
        faultOf(six + "house", 2, place);
    }

    private static void faultsOfLaws() {
        faultOf("spit;", 2, 4);
        faultOf("spit 1", 2, 6);
        faultOf("spit (1;", 2, 7);
        faultOf("spit 1);", 2, 6);
        faultOf("spit ();", 2, 6);
        faultOf("spit 1 2;", 2, 7);
        faultOf("spit 1+;", 2, 7);
        faultOf("spit -1;", 2, 5);
        faultOf("spit 1 or;", 2, 9);
        faultOf("spit 1 and or 1;", 2, 11);
        faultOf("spit not;", 2, 8);
        faultOf("spit 1+not 1;", 2, 7);
        faultOf("spit 1<not 1;", 2, 7);
        faultOf("spit 1<2>3;", 2, 8);
        faultOf("spit (1<2)>3;", 0, NONE);
        faultOf("spit bowl;", 2, 5);
        faultOf("spit at;", 2, 5);
        faultOf("spit (((((((1)))))));", 0, NONE);
        faultOf("spit ((((((((1))))))));", 2, 12);
        faultOf("spit not not not not not not not 1;", 0, NONE);
        faultOf("spit not not not not not not not not 1;", 2, 33);
        faultOf("spit not not not not not not not (1);", 2, 33);
        faultOf("spit not (not (not (not (1))));", 2, 24);
        faultOf("spit not (not (not (not 1)));", 0, NONE);
        faultOf("spit not (not (not (not not 1)));", 2, 24);
        String thirty = "1" + "+1".repeat(29);
        faultOf("spit " + thirty + ";", 0, NONE);
        faultOf("spit " + thirty + "+1;", 2, 5 + 60);
        faultOf("spit " + thirty + "+$;", 1, 5 + 60);
        faultOf("spit " + thirty + "+(1);", 2, 5 + 60);
        faultOf("spit (" + thirty + ");", 2, 6 + 58);
        faultOf("spit " + thirty + ";tax " + thirty + ";grow " + thirty + ";", 0, NONE);
        StoneCensus x = Texts.told("spit " + thirty + ";tax " + thirty + ";grow (" + "1+".repeat(28) + "1);");
        check.due("units in all", x.about(8), 90);
    }

    public static void main(String[] args) {
        newObject();
        feedAndEnd();
        orderOfBytes();
        provinceTold();
        provinceStartsAgain();
        faultsOfTokens();
        faultsOfLines();
        faultsOfLaws();
        check.finish();
    }
}
