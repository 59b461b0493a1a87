/** The edges that the document names of promises 41 to 43. */
public final class ImagesEdgesTest {
    private static final int NONE = StoneCensus.NONE;
    private static final int MIN = Integer.MIN_VALUE;
    private static final int MAX = Integer.MAX_VALUE;
    private static final String TEXT = "house a at 0 heads 3;house b at 4 heads 2;draw 7;grow 1;";
    private static final Check check = new Check();

    private ImagesEdgesTest() {
    }

    /** Promise 41: "kept in a BOX 0 .. 2: the YEAR; NONE if there is none such". */
    private static void boxes() {
        for (int box = 0; box <= 2; box++) {
            StoneCensus x = Texts.told(TEXT);
            check.due("nothing was kept", x.back(box), NONE);
            x.summer();
            x.summer();
            check.due("image", x.image(box), 2);
            for (int other = 0; other <= 2; other++) {
                if (other != box) {
                    check.due("nothing in the others", x.back(other), NONE);
                }
            }
            check.due("acts are there still", x.about(3), 2);
            check.due("back", x.back(box), 2);
            check.due("acts are gone", x.about(3), 0);
        }
        StoneCensus x = Texts.told(TEXT);
        x.summer();
        for (int box : new int[] {-1, 3, 4, MIN, MAX}) {
            check.due("image " + box, x.image(box), NONE);
            check.due("back " + box, x.back(box), NONE);
        }
        check.due("acts are there still", x.about(3), 1);
        check.due("undo", x.undo(), true);
    }

    /** "HEADS, HIDDEN, BOWLS, the YEAR, the SEED are kept": each of these alone is brought back. */
    private static void whatIsKept() {
        StoneCensus x = Texts.told(TEXT);
        x.summer();
        x.hide(1, 2);
        int seed = x.about(2);
        int bowl = x.house(0, 3);
        check.due("image", x.image(1), 1);
        x.comes(0);
        x.back(1);
        check.due("heads", x.house(0, 1), 4);
        x.hide(1, 0);
        x.back(1);
        check.due("hidden", x.house(1, 2), 2);
        x.steal(0, 1);
        x.back(1);
        check.due("the bowl", x.house(0, 3), bowl);
        x.summer();
        check.due("back", x.back(1), 1);
        check.due("the year", x.about(1), 1);
        check.due("the seed", x.about(2), seed);
        check.due("heads of both", x.house(0, 1) * 10 + x.house(1, 1), 43);
        check.due("a summer is the same again", x.bowls(1), x.summer());
    }

    /** Promise 42: "All is as it was kept (no ACTS are kept then): the YEAR; NONE, doing nothing, if nothing was." */
    private static void goingBack() {
        StoneCensus x = Texts.told(TEXT);
        check.due("an image of the beginning", x.image(0), 0);
        x.summer();
        x.summer();
        x.undo();
        check.due("to redo", x.about(4), 1);
        check.due("nothing was kept", x.back(2), NONE);
        check.due("to redo still", x.about(4), 1);
        check.due("back", x.back(0), 0);
        check.due("none to undo", x.undo(), false);
        check.due("none to redo", x.redo(), false);
        check.due("back again", x.back(0), 0);
        x.goes(0);
        check.due("one to undo", x.about(3), 1);
        check.due("an image over it", x.image(0), 0);
        check.due("one to undo still", x.about(3), 1);
        check.due("undo", x.undo(), true);
        check.due("heads", x.house(0, 1), 3);
        check.due("back", x.back(0), 0);
        check.due("heads of the later image", x.house(0, 1), 2);
        // Forty acts from an image on, and the first of them can be undone down to it.
        for (int i = 0; i < 40; i++) {
            x.summer();
        }
        for (int i = 0; i < 40; i++) {
            check.due("undo", x.undo(), true);
        }
        check.due("undo of none", x.undo(), false);
        check.due("the image", x.house(0, 1), 2);
        check.due("its year", x.about(1), 0);
    }

    /** "BOXES are empty then", of a province(); but not by a fault. */
    private static void boxesOfAProvince() {
        StoneCensus x = Texts.told(TEXT);
        for (int box = 0; box <= 2; box++) {
            x.image(box);
        }
        check.due("a fault", Texts.tell(x, "house"), NONE);
        for (int box = 0; box <= 2; box++) {
            check.due("kept", x.back(box), 0);
        }
        check.due("the same text", Texts.tell(x, TEXT), 2);
        for (int box = 0; box <= 2; box++) {
            check.due("empty", x.back(box), NONE);
        }
        StoneCensus none = new StoneCensus();
        check.due("an image without houses", none.image(2), 0);
        none.summer();
        check.due("back", none.back(2), 0);
        check.due("the seed", none.about(2), 0);
    }

    /** Promise 43: "NONE for another what", and each what at its least and its most. */
    private static void abouts() {
        StoneCensus x = new StoneCensus();
        for (int what = 0; what <= 9; what++) {
            check.due("at first: about " + what, x.about(what), 0);
        }
        for (int what : new int[] {-1, -2, 10, 11, MIN, MAX}) {
            check.due("about " + what, x.about(what), NONE);
        }
        String thirty = "1" + "+1".repeat(29);
        StringBuilder text = new StringBuilder("spit " + thirty + ";tax " + thirty + ";grow " + thirty + ";draw 999;");
        for (int i = 0; i < 5; i++) {
            text.append("house ").append((char) ('a' + i)).append(" at 0 heads 1;");
        }
        Texts.tell(x, text.toString());
        check.due("houses", x.about(0), 5);
        check.due("the seed", x.about(2), 999);
        check.due("units", x.about(8), 90);
        for (int i = 0; i < 41; i++) {
            x.summer();
        }
        check.due("the year", x.about(1), 41);
        check.due("to undo", x.about(3), 40);
        for (int i = 0; i < 40; i++) {
            x.undo();
        }
        check.due("to undo", x.about(3), 0);
        check.due("to redo", x.about(4), 40);
        for (int i = 0; i < 31; i++) {
            x.report(1, 0, 1);
        }
        check.due("reports", x.about(5), 30);
        for (int i = 0; i < 81; i++) {
            x.feed(0, 0, 0, 0, 0);
        }
        check.due("bytes", x.about(7), 1600);
        x.chase();
        check.due("six knocks", x.about(9), 6);
        x.liars(0);
        check.due("five houses", x.about(9), 5);
        for (int i = 0; i < 101; i++) {
            x.later(1000);
        }
        check.due("the time", x.about(6), 100000);
    }

    public static void main(String[] args) {
        boxes();
        whatIsKept();
        goingBack();
        boxesOfAProvince();
        abouts();
        check.finish();
    }
}
