/** Promises 6 and 7: house, sum; and how a law is worked out. */
public final class HousesTest {
    private static final int NONE = StoneCensus.NONE;
    private static final Check check = new Check();

    private HousesTest() {
    }

    private static void houseByNoLaws() {
        StoneCensus x = Texts.told("house a at 3 heads 2 jam 4;house b at 8 heads 7 jam 9 habit 9;");
        int[][] want = {{3, 2, 0, 0, 4, 0, 2, 1, 0, 2}, {8, 7, 0, 0, 9, 9, 16, 0, 0, 16}};
        for (int house = 0; house < 2; house++) {
            for (int what = 0; what <= 9; what++) {
                check.due("house " + house + " " + what, x.house(house, what), want[house][what]);
            }
            check.due("house what 10", x.house(house, 10), NONE);
            check.due("house what -1", x.house(house, -1), NONE);
        }
        check.due("house -1", x.house(-1, 1), NONE);
        check.due("house 2", x.house(2, 1), NONE);
        check.due("house max", x.house(Integer.MAX_VALUE, 1), NONE);
        check.due("house min", x.house(Integer.MIN_VALUE, 1), NONE);
        x.hide(1, 7);
        check.due("all hidden: its habit stays", x.house(1, 6), 9);
        check.due("as many as its jam do not show", x.house(1, 7), 0);
        x.summer();
        check.due("a bowl of 9 less the magpie's none", x.house(1, 3), 9);
        check.due("its tax", x.house(1, 8), 9);
    }

    private static void sums() {
        StoneCensus x = Texts.told("house a at 3 heads 2 jam 4;house b at 8 heads 7 habit 3;tax stones*3+jam;");
        x.summer();
        x.hide(1, 4);
        int[] want = {9, 4, 2 + 10, 2 + 6, 6 + 4 + 30, 6 + 4 + 18};
        for (int what = 0; what < 6; what++) {
            check.due("sum " + what, x.sum(what), want[what]);
        }
        check.due("sum 6", x.sum(6), NONE);
        check.due("sum -1", x.sum(-1), NONE);
        check.due("sum 9", x.sum(9), NONE);
    }

    private static void limits() {
        StoneCensus x = Texts.told("house a at 0 heads 1;spit 100;tax 1000;");
        check.due("99 stones at most", x.house(0, 6), 99);
        check.due("a tax of 999 at most", x.house(0, 9), 999);
        x = Texts.told("house a at 0 heads 1;spit 0-1;tax 0-1;");
        check.due("0 stones at least", x.house(0, 6), 0);
        check.due("a tax of 0 at least", x.house(0, 9), 0);
        x = Texts.told("house a at 0 heads 1;spit 99;");
        check.due("a tax that is not told", x.house(0, 9), 99);
    }

    private static void whatLawsAreBy() {
        StoneCensus x = Texts.told("house a at 9 heads 6 jam 3 habit 4;spit heads*10+hidden;");
        x.hide(0, 5);
        check.due("heads and hidden", x.house(0, 6), 65);
        x = Texts.told("house a at 9 heads 6 jam 3 habit 4;spit jam*10+habit+stones;");
        check.due("jam, habit; stones are 0", x.house(0, 6), 34);
        x = Texts.told("house a at 9 heads 6 jam 3 habit 4;spit year*9+1;tax year*100+stones;");
        x.summer();
        x.summer();
        check.due("the year", x.house(0, 6), 19);
        check.due("the year of a tax", x.house(0, 9), 219);
        x = Texts.told("house a at 9 heads 6 jam 3 habit 4;spit 7;tax stones*100+jam*10+heads+hidden+habit;");
        x.hide(0, 2);
        check.due("a tax by stones and jam, others 0", x.house(0, 9), 730);
    }

    private static void law(String e, int want) {
        StoneCensus x = Texts.told("house a at 9 heads 6 jam 3 habit 4;spit " + e + ";");
        check.due("spit " + e, x.house(0, 6), want);
    }

    private static void workings() {
        law("2+3*4", 14);
        law("(2+3)*4", 20);
        law("20-5-3", 12);
        law("40/5/2", 4);
        law("40/5*2", 16);
        law("7%4*2", 6);
        law("7/2", 3);
        law("10+(0-7)/2", 7);
        law("10+(0-7)%4", 7);
        law("5+7/0", 5);
        law("5+7%0", 5);
        law("1<2", 1);
        law("2<2", 0);
        law("3>2", 1);
        law("2>2", 0);
        law("2=2", 1);
        law("2=3", 0);
        law("1+1=2", 1);
        law("5 and 7", 1);
        law("5 and 0", 0);
        law("0 or 9", 1);
        law("0 or 0", 0);
        law("(0-1) or 0", 1);
        law("not 5", 0);
        law("not 0", 1);
        law("not not 5", 1);
        law("not 1<0", 1);
        law("not 0 and 0", 0);
        law("1 or 0 and 0", 1);
        law("(1 or 0) and 0", 0);
        law("1=1 and 2=2", 1);
        law("(3>1)*5+(3<1)*7", 5);
        law("((heads))", 6);
        law("9999*9999*9999<0", 1);
        law("9999*9999*9999>0", 0);
        // 46341 * 46341 wraps below 0: -2147479015.
        law("(9999*4+6345)*(9999*4+6345)+2147*100*100*100+4790*100+58", 43);
        // The least int by -1 is itself again, with no rest.
        law("(8192*8192*32/(0-1)<0)+(8192*8192*32%(0-1)=0)", 2);
    }

    public static void main(String[] args) {
        houseByNoLaws();
        sums();
        limits();
        whatLawsAreBy();
        workings();
        check.finish();
    }
}
