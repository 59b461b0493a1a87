/** Promises 41 to 43: image, back, about. */
public final class ImagesTest {
    private static final int NONE = StoneCensus.NONE;
    private static final Check check = new Check();

    private ImagesTest() {
    }

    private static void images() {
        StoneCensus x = Texts.told("house a at 0 heads 3;house b at 4 heads 2;draw 7;grow 1;");
        check.due("box 3", x.image(3), NONE);
        check.due("box -1", x.image(-1), NONE);
        check.due("nothing was kept", x.back(0), NONE);
        check.due("image", x.image(0), 0);
        x.hide(0, 2);
        x.summer();
        x.steal(1, 1);
        check.due("image", x.image(2), 1);
        check.due("no act", x.about(3), 3);
        x.summer();
        x.goes(0);
        x.undo();
        check.due("to redo", x.about(4), 1);
        check.due("an image leaves acts", x.image(1), 2);
        check.due("to redo", x.about(4), 1);
        check.due("nothing such", x.back(3), NONE);
        check.due("nothing such", x.back(-1), NONE);
        check.due("nothing is done", x.about(3), 4);
        check.due("back", x.back(2), 1);
        check.due("acts are gone", x.about(3), 0);
        check.due("and those to redo", x.about(4), 0);
        check.due("undo", x.undo(), false);
        check.due("redo", x.redo(), false);
        check.due("the year", x.about(1), 1);
        check.due("the seed", x.about(2), 30);
        check.due("heads", x.house(0, 1), 4);
        check.due("hidden", x.house(0, 2), 2);
        check.due("the bowl", x.house(0, 3), 1);
        check.due("the bowl", x.house(1, 3), 1);
        check.due("gone on from", x.comes(0), 5);
        check.due("undo to the image", x.undo(), true);
        check.due("heads", x.house(0, 1), 4);
        check.due("back", x.back(0), 0);
        check.due("heads", x.house(0, 1), 3);
        check.due("the bowl", x.house(0, 3), 0);
        check.due("the seed", x.about(2), 7);
        check.due("a box is kept", x.back(2), 1);
        check.due("filled again", x.image(0), 1);
        x.summer();
        check.due("as filled last", x.back(0), 1);
        check.due("the other one", x.back(1), 2);
    }

    private static void imagesLeaveTheRest() {
        StoneCensus x = Texts.told("house a at 0 heads 3;house b at 4 heads 2;");
        x.image(0);
        x.report(1, 1, 1);
        x.later(4);
        x.chase();
        x.feed(0, 0, 0, 0, 0);
        x.back(0);
        check.due("reports", x.about(5), 1);
        check.due("the time", x.about(6), 4);
        check.due("the tape", x.about(7), 20);
        check.due("what lies there", x.about(9), 2);
    }

    private static void abouts() {
        StoneCensus x = Texts.told("house a at 0 heads 3;house b at 4 heads 2;draw 7;spit heads+(hidden);");
        x.summer();
        x.comes(0);
        x.comes(0);
        x.comes(0);
        x.undo();
        x.undo();
        x.report(1, 0, 1);
        x.report(1, 0, 1);
        x.untell(0);
        x.later(77);
        x.feed(0, 0, 0, 0, 0);
        x.end(13);
        x.leave(99);
        int[] want = {2, 1, 30, 2, 2, 2, 77, 13, 3, 2};
        for (int what = 0; what < want.length; what++) {
            check.due("about " + what, x.about(what), want[what]);
        }
        check.due("about 10", x.about(10), NONE);
        check.due("about -1", x.about(-1), NONE);
        check.due("about min", x.about(Integer.MIN_VALUE), NONE);
    }

    public static void main(String[] args) {
        images();
        imagesLeaveTheRest();
        abouts();
        check.finish();
    }
}
