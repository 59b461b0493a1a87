/** Promises 8 to 18: what is done, undone and foreseen. */
public final class ActsTest {
    private static final int NONE = StoneCensus.NONE;
    private static final Check check = new Check();

    private ActsTest() {
    }

    private static StoneCensus three() {
        return Texts.told("house a at 3 heads 6;house b at 1 heads 1;house c at 9 heads 0;");
    }

    private static void comings() {
        StoneCensus x = three();
        check.due("comes", x.comes(0), 7);
        check.due("comes to 7", x.comes(0), NONE);
        check.due("one act", x.about(3), 1);
        check.due("heads", x.house(0, 1), 7);
        check.due("comes to none such", x.comes(3), NONE);
        check.due("comes to -1", x.comes(-1), NONE);
        check.due("comes to an empty one", x.comes(2), 1);
        check.due("two acts", x.about(3), 2);
    }

    private static void goings() {
        StoneCensus x = three();
        x.hide(0, 6);
        check.due("goes", x.goes(0), 5);
        check.due("hidden no more than heads", x.house(0, 2), 5);
        x.hide(0, 2);
        check.due("goes", x.goes(0), 4);
        check.due("hidden stay", x.house(0, 2), 2);
        check.due("goes from nobody", x.goes(2), NONE);
        check.due("goes from none such", x.goes(3), NONE);
        check.due("goes from min", x.goes(Integer.MIN_VALUE), NONE);
        check.due("four acts", x.about(3), 4);
    }

    private static void movings() {
        StoneCensus x = three();
        x.hide(0, 6);
        check.due("moves", x.moves(0, 1), 2);
        check.due("from", x.house(0, 1), 5);
        check.due("hidden no more than heads", x.house(0, 2), 5);
        check.due("hidden where he comes to", x.house(1, 2), 0);
        check.due("the same house", x.moves(0, 0), NONE);
        check.due("nobody is there", x.moves(2, 0), NONE);
        check.due("from none such", x.moves(3, 0), NONE);
        check.due("to none such", x.moves(0, 3), NONE);
        check.due("from -1", x.moves(-1, 0), NONE);
        check.due("to -1", x.moves(0, -1), NONE);
        x.moves(1, 0);
        x.comes(0);
        check.due("there are 7", x.moves(1, 0), NONE);
        check.due("acts", x.about(3), 4);
    }

    private static void hidings() {
        StoneCensus x = three();
        check.due("hide", x.hide(0, 4), 0);
        check.due("hide other ones", x.hide(0, 6), 4);
        check.due("hide more than there are", x.hide(0, 7), NONE);
        check.due("hide fewer than none", x.hide(0, -1), NONE);
        check.due("hide in none such", x.hide(3, 0), NONE);
        check.due("hide in -1", x.hide(-1, 0), NONE);
        check.due("still hidden", x.house(0, 2), 6);
        check.due("hide nobody", x.hide(0, 0), 6);
        check.due("the same again is an act", x.hide(0, 0), 0);
        check.due("acts", x.about(3), 4);
    }

    private static void thefts() {
        StoneCensus x = Texts.told("house a at 3 heads 6;house b at 4 heads 1;spit 99;");
        check.due("nothing is there", x.steal(0, 1), NONE);
        x.summer();
        check.due("a bowl", x.house(0, 3), 99);
        check.due("no stones", x.steal(0, 0), NONE);
        check.due("fewer than none", x.steal(0, -1), NONE);
        check.due("above 99", x.steal(0, 100), NONE);
        check.due("none such", x.steal(2, 1), NONE);
        check.due("none such", x.steal(-1, 1), NONE);
        check.due("one act", x.about(3), 1);
        check.due("steal", x.steal(0, 9), 90);
        check.due("more than are there", x.steal(0, 91), NONE);
        check.due("steal all", x.steal(0, 90), 0);
        check.due("acts", x.about(3), 3);
        check.due("steal 99", x.steal(1, 99), 0);
        check.due("acts", x.about(3), 4);
    }

    private static void summers() {
        StoneCensus x = Texts.told("house a at 3 heads 1;house b at 1 heads 6;house c at 9 heads 0 habit 1;"
            + "draw 999;grow stones-heads+2-year;");
        check.due("without bowls", x.sum(2), 0);
        // 999 * 137 + 71 = 136934: the seed is 934, house 934 % 3 = 1, 9 % 3 = 0 stones.
        check.due("summer", x.summer(), 1 + 6 + 1);
        check.due("the seed", x.about(2), 934);
        check.due("the year", x.about(1), 1);
        check.due("a grows by 1-1+2-0", x.house(0, 1), 3);
        check.due("b grows by 6-6+2, 7 at most", x.house(1, 1), 7);
        check.due("c grows by 1-0+2", x.house(2, 1), 3);
        // 934 * 137 + 71 = 128029: 29, house 2, 0 stones; grow by 0+2-1, for c by 4-3+2-1.
        check.due("summer", x.summer(), 3 + 7 + 4);
        check.due("a", x.house(0, 1), 4);
        check.due("b", x.house(1, 1), 7);
        check.due("c", x.house(2, 1), 5);
    }

    private static void magpies() {
        // 3 * 137 + 71 = 482: house 0 of 2, 4 % 3 = 1; 482 * 137 + 71 = 66105: 105, house 1, 1; 14456: 456, house 0, 1.
        StoneCensus x = Texts.told("house a at 0 heads 0;house b at 0 heads 5;draw 3;");
        check.due("no more than are there", x.summer(), 5);
        check.due("an empty bowl", x.house(0, 3), 0);
        check.due("one is taken", x.summer(), 4);
        check.due("from b", x.house(1, 3), 4);
        // 456 * 137 + 71 = 62543: 543, house 1, 5 % 3 = 2.
        x.summer();
        check.due("two are taken", x.summer(), 3);
        check.due("the seed", x.about(2), 543);
        x = Texts.told("draw 1;");
        check.due("a summer without houses", x.summer(), 0);
        check.due("its seed", x.about(2), 208);
        check.due("its year", x.about(1), 1);
    }

    /** More calls than an object is used for: the document's end of summers can't be reached by fewer. */
    private static void lastSummer() {
        StoneCensus x = Texts.told("house a at 0 heads 1;");
        for (int i = 0; i < 998; i++) {
            x.summer();
        }
        check.due("the 999th", x.summer() >= 0, true);
        check.due("the year", x.about(1), 999);
        check.due("behind 999", x.summer(), NONE);
        check.due("nothing is done", x.about(1), 999);
        check.due("but foreseen", x.will(0, 1), 1);
    }

    private static void growth() {
        StoneCensus x = Texts.told("house a at 0 heads 7;house b at 0 heads 2;grow 0-9;");
        x.hide(0, 6);
        x.hide(1, 1);
        x.summer();
        check.due("3 less at most", x.house(0, 1), 4);
        check.due("hidden no more than heads", x.house(0, 2), 4);
        check.due("0 at least", x.house(1, 1), 0);
        check.due("hidden no more than heads", x.house(1, 2), 0);
        x = Texts.told("house a at 0 heads 1;house b at 0 heads 5;grow 9;");
        x.summer();
        check.due("3 more at most", x.house(0, 1), 4);
        check.due("7 at most", x.house(1, 1), 7);
        // 0 -> 71 -> 798: in the year 1 the magpie takes one of nine before it grows.
        x = Texts.told("house a at 0 heads 1 jam 2 habit 3;spit 9;grow heads=1 and hidden=1 and jam=2 and habit=3 and"
            + " stones=8 and year=1;");
        x.hide(0, 1);
        x.summer();
        check.due("not in the year 0", x.house(0, 1), 1);
        x.summer();
        check.due("in the year 1", x.house(0, 1), 2);
        x.summer();
        check.due("not in the year 2", x.house(0, 1), 2);
        x = Texts.told("house a at 0 heads 1;");
        x.summer();
        check.due("no law of growth", x.house(0, 1), 1);
    }

    private static void undoing() {
        StoneCensus x = Texts.told("house a at 0 heads 3;house b at 4 heads 2;draw 7;grow 1;");
        check.due("nothing to undo", x.undo(), false);
        check.due("nothing to redo", x.redo(), false);
        x.hide(0, 2);
        x.summer();
        x.steal(0, 1);
        x.goes(0);
        check.due("undo", x.undo(), true);
        check.due("heads", x.house(0, 1), 4);
        check.due("undo", x.undo(), true);
        check.due("the bowl", x.house(0, 3), 1);
        check.due("undo", x.undo(), true);
        check.due("the year", x.about(1), 0);
        check.due("the seed", x.about(2), 7);
        check.due("the bowl", x.house(0, 3), 0);
        check.due("heads", x.house(0, 1), 3);
        check.due("hidden", x.house(0, 2), 2);
        check.due("to undo", x.about(3), 1);
        check.due("to redo", x.about(4), 3);
        check.due("redo", x.redo(), true);
        check.due("the year", x.about(1), 1);
        check.due("the seed", x.about(2), 30);
        check.due("the bowl", x.house(0, 3), 1);
        check.due("a call that does nothing", x.comes(7), NONE);
        check.due("redo", x.redo(), true);
        check.due("the bowl", x.house(0, 3), 0);
        check.due("another act", x.comes(1), 4);
        check.due("redo is gone", x.redo(), false);
        check.due("to redo", x.about(4), 0);
        check.due("to undo", x.about(3), 4);
    }

    private static void fortyAreKept() {
        StoneCensus x = Texts.told("house a at 0 heads 0;");
        for (int i = 0; i < 22; i++) {
            x.comes(0);
            x.goes(0);
        }
        x.comes(0);
        check.due("40 are kept", x.about(3), 40);
        int undone = 0;
        while (x.undo()) {
            undone++;
        }
        check.due("40 are undone", undone, 40);
        check.due("the oldest are gone", x.house(0, 1), 1);
        check.due("to redo", x.about(4), 40);
        int redone = 0;
        while (x.redo()) {
            redone++;
        }
        check.due("40 are redone", redone, 40);
        check.due("as it was", x.house(0, 1), 1);
        x.undo();
        x.comes(0);
        check.due("one more of 40", x.about(3), 40);
        x = Texts.told("house a at 0 heads 0;");
        for (int i = 0; i < 100; i++) {
            x.summer();
        }
        while (x.undo()) {
            undone++;
        }
        check.due("60 summers can't be undone", x.about(1), 60);
    }

    private static void foreseen() {
        StoneCensus x = Texts.told("house a at 3 heads 2;house b at 8 heads 4 habit 1;house c at 5 heads 1;draw 3;"
            + "grow (heads<5)-(year%3=2)*2;");
        int[][] heads = new int[61][3];
        int[] bowls = new int[61];
        StoneCensus y = Texts.told("house a at 3 heads 2;house b at 8 heads 4 habit 1;house c at 5 heads 1;draw 3;"
            + "grow (heads<5)-(year%3=2)*2;");
        for (int n = 0; n <= 60; n++) {
            for (int house = 0; house < 3; house++) {
                heads[n][house] = y.house(house, 1);
            }
            bowls[n] = y.sum(2);
            y.summer();
        }
        for (int n = 0; n <= 60; n++) {
            for (int house = 0; house < 3; house++) {
                check.due("will " + house + " " + n, x.will(house, n), heads[n][house]);
            }
            check.due("bowls " + n, x.bowls(n), bowls[n]);
        }
        check.due("nothing is done", x.about(1) + x.about(3) + x.sum(2), 0);
        check.due("the seed", x.about(2), 3);
        check.due("will behind 61", x.will(0, 61), NONE);
        check.due("will behind -1", x.will(0, -1), NONE);
        check.due("will of none such", x.will(3, 1), NONE);
        check.due("will of -1", x.will(-1, 1), NONE);
        check.due("bowls behind 61", x.bowls(61), NONE);
        check.due("bowls behind -1", x.bowls(-1), NONE);
    }

    private static void falsities() {
        StoneCensus x = Texts.told("house a at 3 heads 2;house b at 8 heads 0;house c at 5 heads 1 habit 1;");
        check.due("empty bowls but one", x.falses(), 0b101);
        x.summer();
        check.due("behind a summer", x.falses(), 0b100);
        x.hide(0, 1);
        check.due("hidden ones are heads", x.falses(), 0b100);
        x.comes(1);
        check.due("one came", x.falses(), 0b110);
        check.due("without houses", new StoneCensus().falses(), 0);
    }

    public static void main(String[] args) {
        comings();
        goings();
        movings();
        hidings();
        thefts();
        summers();
        magpies();
        lastSummer();
        growth();
        undoing();
        fortyAreKept();
        foreseen();
        falsities();
        check.finish();
    }
}
