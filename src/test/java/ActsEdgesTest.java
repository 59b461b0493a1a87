/** The edges that the document names in part 2 of its terms, and of promises 6 to 18. */
public final class ActsEdgesTest {
    private static final int NONE = StoneCensus.NONE;
    private static final int MIN = Integer.MIN_VALUE;
    private static final int MAX = Integer.MAX_VALUE;
    private static final Check check = new Check();

    private ActsEdgesTest() {
    }

    private static int limited(int number, int least, int most) {
        return number < least ? least : number > most ? most : number;
    }

    /** A number as an e, below 0 too. */
    private static String told(int number) {
        return number < 0 ? "0-" + -number : String.valueOf(number);
    }

    /** "STONES of it: what comes of spit .., 0 at least, 99 at most"; "TAX ..: what comes of tax .., 0 at least, 999 at most". */
    private static void limitsOfLaws() {
        for (int n : new int[] {-9999, -2, -1, 0, 1, 2, 97, 98, 99, 100, 101, 9999}) {
            StoneCensus x = Texts.told("house a at 0 heads 3;spit " + told(n) + ";");
            check.due("stones of " + n, x.house(0, 6), limited(n, 0, 99));
            check.due("their tax, not told", x.house(0, 9), limited(n, 0, 99));
            check.due("stones together", x.sum(3), limited(n, 0, 99));
            check.due("a bowl of them", x.summer(), limited(n, 0, 99));
        }
        for (int n : new int[] {-9999, -2, -1, 0, 1, 2, 997, 998, 999, 1000, 1001, 9999}) {
            StoneCensus x = Texts.told("house a at 0 heads 3;house b at 0 heads 0;tax " + told(n) + ";");
            check.due("a tax of " + n, x.house(0, 9), limited(n, 0, 999));
            check.due("that of an empty bowl", x.house(0, 8), limited(n, 0, 999));
            check.due("taxes of bowls together", x.sum(4), 2 * limited(n, 0, 999));
            check.due("taxes of stones together", x.sum(5), 2 * limited(n, 0, 999));
        }
    }

    /** "(HEADS less HIDDEN and its habit, if it is not told)"; "A HOUSE SHOWS, if its STONES are less than its jam." */
    private static void spitNotTold() {
        for (int habit = 0; habit <= 9; habit++) {
            for (int jam = 0; jam <= 9; jam += 3) {
                StoneCensus x = Texts.told("house a at 0 heads 7 jam " + jam + " habit " + habit + ";");
                for (int hidden = 0; hidden <= 7; hidden++) {
                    x.hide(0, hidden);
                    check.due("stones", x.house(0, 6), 7 - hidden + habit);
                    check.due("shows", x.house(0, 7), 7 - hidden + habit < jam ? 1 : 0);
                }
            }
        }
    }

    /** What an e of spit is in a house with 6 heads (2 hidden), jam 3, habit 4. */
    private static void small(String e, int want) {
        StoneCensus x = Texts.told("house a at 9 heads 6 jam 3 habit 4;spit " + e + ";");
        x.hide(0, 2);
        check.due(e, x.house(0, 6), want);
    }

    /** As small, but for ints of any size: that two come to the same. */
    private static void big(String e, String other) {
        StoneCensus x = Texts.told("house a at 9 heads 6 jam 3 habit 4;spit (" + e + ")=(" + other + ");");
        check.due(e + " = " + other, x.house(0, 6), 1);
    }

    private static void not(String e, String other) {
        StoneCensus x = Texts.told("house a at 9 heads 6 jam 3 habit 4;spit (" + e + ")=(" + other + ");");
        check.due(e + " is not " + other, x.house(0, 6), 0);
    }

    private static final String LEAST = "8192*8192*32";
    private static final String MOST = "8192*8192*32-1";

    /** "In e ints, wrapping". */
    private static void wrapping() {
        big(LEAST + "<0", "1");
        big("(" + MOST + ")>0", "1");
        big("(" + MOST + ")+1", LEAST);
        big("(" + MOST + ")+1", "0-" + LEAST);
        big("(" + LEAST + ")-1", MOST);
        big("0-" + LEAST, LEAST);
        big("(" + MOST + ")*2", "0-2");
        big(LEAST + "*2", "0");
        big("(" + MOST + ")*(" + MOST + ")", "1");
        big("4096*4096*4096", "0");
        // 999,700,029,999 less 233 times 4,294,967,296.
        big("9999*9999*9999", "0-1027*1000*1000-349*1000-969");
        not("(" + MOST + ")", LEAST);
        // Relations do not go by a difference, which would wrap.
        big(LEAST + "<(" + MOST + ")", "1");
        big(LEAST + ">(" + MOST + ")", "0");
        big("(" + MOST + ")>" + LEAST, "1");
        big("(" + MOST + ")<" + LEAST, "0");
        big(LEAST + "=(" + MOST + ")", "0");
        // Beyond all limits on both sides.
        check.due("stones of the least int", Texts.told("house a at 0 heads 0;spit " + LEAST + ";").house(0, 6), 0);
        check.due("stones of the most", Texts.told("house a at 0 heads 0;spit " + MOST + ";").house(0, 6), 99);
        check.due("tax of the least int", Texts.told("house a at 0 heads 0;tax " + LEAST + ";").house(0, 9), 0);
        check.due("tax of the most", Texts.told("house a at 0 heads 0;tax " + MOST + ";").house(0, 9), 999);
        StoneCensus x = Texts.told("house a at 0 heads 7;grow " + LEAST + ";");
        x.summer();
        check.due("growth by the least int", x.house(0, 1), 4);
        x = Texts.told("house a at 0 heads 1;grow " + MOST + ";");
        x.summer();
        check.due("growth by the most", x.house(0, 1), 4);
    }

    /** "/ cut, % its rest, both by 0: 0". */
    private static void dividing() {
        String[][] signs = {{"7", "2"}, {"0-7", "2"}, {"7", "0-2"}, {"0-7", "0-2"}, {"1", "2"}, {"0-1", "2"}, {"0", "5"},
            {"6", "6"}, {"9999", "9998"}, {"0-9999", "10"}};
        int[][] numbers = {{7, 2}, {-7, 2}, {7, -2}, {-7, -2}, {1, 2}, {-1, 2}, {0, 5}, {6, 6}, {9999, 9998}, {-9999, 10}};
        for (int i = 0; i < signs.length; i++) {
            String pair = "(" + signs[i][0] + ")/(" + signs[i][1] + ")";
            big(pair, told(numbers[i][0] / numbers[i][1]));
            big(pair.replace('/', '%'), told(numbers[i][0] % numbers[i][1]));
        }
        for (String upper : new String[] {"0", "1", "7", "9999", "(0-1)", "(" + LEAST + ")", "(" + MOST + ")"}) {
            big(upper + "/0", "0");
            big(upper + "%0", "0");
            big(upper + "/(3-3)", "0");
            big("5+" + upper + "%(3-3)", "5");
        }
        big("(" + LEAST + ")/(0-1)", LEAST);
        big("(" + LEAST + ")%(0-1)", "0");
        big("(" + LEAST + ")/1", LEAST);
        big("(" + MOST + ")/(0-1)", LEAST + "+1");
    }

    /** "relations, and, or, not are 1 or 0, of what is not 0". */
    private static void truthsOfLaws() {
        String[] numbers = {"0", "1", "2", "(0-1)", "9999", "(" + LEAST + ")"};
        for (int i = 0; i < numbers.length; i++) {
            big("not " + numbers[i], i == 0 ? "1" : "0");
            big("not not " + numbers[i], i == 0 ? "0" : "1");
            for (int j = 0; j < numbers.length; j++) {
                big(numbers[i] + " and " + numbers[j], i == 0 || j == 0 ? "0" : "1");
                big(numbers[i] + " or " + numbers[j], i == 0 && j == 0 ? "0" : "1");
                big(numbers[i] + "=" + numbers[j], i == j ? "1" : "0");
            }
        }
        int[] row = {-2, -1, 0, 1, 2};
        for (int a : row) {
            for (int b : row) {
                String one = "(" + told(a) + ")";
                String other = "(" + told(b) + ")";
                big(one + "<" + other, a < b ? "1" : "0");
                big(one + ">" + other, a > b ? "1" : "0");
                big(one + "=" + other, a == b ? "1" : "0");
            }
        }
        small("heads+hidden+jam+habit+stones+year", 6 + 2 + 3 + 4);
        small("1-1-1+2", 1);
        small("2*3%4", 2);
        small("2+3*4-5", 9);
        small("100/7/2", 7);
        small("not 0+1", 0);
        small("not 1=2", 1);
        small("1 or 1 and 0", 1);
        small("0 and 1 or 1", 1);
        small("0 and (1 or 1)", 0);
    }

    /** "by HEADS, hidden, jam, habit, the YEAR (0 at first; stones 0)"; "by stones, jam, the YEAR (others 0)". */
    private static void whatLawsAreBy() {
        String words = "heads hidden jam habit stones year";
        int[] spit = {6, 2, 3, 4, 0, 1};
        int[] tax = {0, 0, 3, 0, 5, 1};
        int[] grow = {6, 2, 3, 4, 8, 0};
        String[] names = words.split(" ");
        for (int i = 0; i < names.length; i++) {
            String house = "house a at 9 heads 6 jam 3 habit 4;";
            StoneCensus x = Texts.told(house + "spit " + names[i] + ";");
            x.hide(0, 2);
            check.due("the year is 0 at first", x.house(0, 6), i == 5 ? 0 : spit[i]);
            x.summer();
            check.due("spit by " + names[i], x.house(0, 6), spit[i]);
            x = Texts.told(house + "spit 5;tax " + names[i] + ";");
            x.hide(0, 2);
            x.summer();
            check.due("tax by " + names[i], x.house(0, 9), tax[i]);
            check.due("tax of a bowl by " + names[i], x.house(0, 8), tax[i]);
            x.steal(0, 2);
            check.due("tax of a bowl that was stolen from", x.house(0, 8), i == 4 ? 3 : tax[i]);
            x = Texts.told(house + "grow (" + names[i] + "=" + grow[i] + ")-2*(" + names[i] + ">" + grow[i] + ");");
            x.hide(0, 2);
            x.summer();
            check.due("grow by " + names[i], x.house(0, 1), 7);
        }
    }

    /** The laws go by the numbers of the house itself: five houses, each with others. */
    private static void lawsOfEachHouse() {
        StringBuilder text = new StringBuilder();
        for (int i = 0; i < 5; i++) {
            text.append("house ").append((char) ('a' + i)).append(" at ").append(i).append(" heads ").append(i + 2);
            text.append(" jam ").append(9 - i).append(" habit ").append(2 * i).append(';');
        }
        String[] words = {"heads", "hidden", "jam", "habit"};
        for (int word = 0; word < words.length; word++) {
            StoneCensus spit = Texts.told(text + "spit " + words[word] + ";tax jam*100+stones;");
            StoneCensus grow = Texts.told(text + "grow (" + words[word] + ">4)-(stones>9);");
            for (int house = 0; house < 5; house++) {
                spit.hide(house, 4 * house % 7 % (house + 3));
                grow.hide(house, 4 * house % 7 % (house + 3));
            }
            grow.summer();
            for (int house = 0; house < 5; house++) {
                int hidden = 4 * house % 7 % (house + 3);
                int[] values = {house + 2, hidden, 9 - house, 2 * house};
                check.due("spit by " + words[word] + " of " + house, spit.house(house, 6), values[word]);
                check.due("tax of " + house, spit.house(house, 9), (9 - house) * 100 + values[word]);
                int stones = grow.house(house, 3);
                check.due("stones of " + house, stones, house + 2 - hidden + 2 * house);
                int more = (values[word] > 4 ? 1 : 0) - (stones > 9 ? 1 : 0);
                check.due("grow by " + words[word] + " of " + house, grow.house(house, 1), Math.min(7, house + 2 + more));
            }
        }
    }

    /** "30 in one e": one with as many numbers that wait for their operators as can be. */
    private static void manyThatWait() {
        String e = "2";
        for (int i = 0; i < 4; i++) {
            e = "0 or 1 and 1<1+1*(" + e + ")";
        }
        // 0 or 1 and (1 < 1 + 2) is 1; then 1 < 1 + 1 and so on.
        small(e, 1);
        small("0 or 1 and 0<" + "1+1*(".repeat(6) + "2" + ")".repeat(6), 1);
        small("1+1*(".repeat(7) + "2" + ")".repeat(7), 9);
        small("1+2*(".repeat(4) + "2" + ")".repeat(4), 15 + 32);
        small("9-(".repeat(7) + "2" + ")".repeat(7), 7);
    }

    /** Promise 6: "NONE if there is none such, or for another what"; promise 7: "NONE for another what". */
    private static void askedWrongly() {
        StoneCensus x = Texts.told("house a at 9 heads 6 jam 3 habit 4;house b at 60 heads 7 jam 9 habit 9;");
        for (int house : new int[] {-1, 2, 3, 4, 5, 6, MIN, MAX}) {
            for (int what = -1; what <= 10; what++) {
                check.due("house " + house + " " + what, x.house(house, what), NONE);
            }
        }
        for (int what : new int[] {-1, 10, 11, MIN, MAX}) {
            check.due("house 0 " + what, x.house(0, what), NONE);
            check.due("house 1 " + what, x.house(1, what), NONE);
        }
        for (int what : new int[] {-1, 6, 7, 8, 9, 10, MIN, MAX}) {
            check.due("sum " + what, x.sum(what), NONE);
            check.due("sum without houses", new StoneCensus().sum(what), NONE);
        }
        for (int what = 0; what <= 5; what++) {
            check.due("sum without houses", new StoneCensus().sum(what), 0);
        }
    }

    private static String houses(int n, int heads) {
        StringBuilder text = new StringBuilder();
        for (int i = 0; i < n; i++) {
            text.append("house ").append((char) ('a' + i)).append(" at 0 heads ").append(heads).append(';');
        }
        return text.toString();
    }

    /** Promises 8 and 9, from none to 7 and back. */
    private static void comingAndGoing() {
        for (int house = 0; house < 5; house++) {
            StoneCensus x = Texts.told(houses(5, 0));
            for (int n = 1; n <= 7; n++) {
                check.due("comes", x.comes(house), n);
            }
            check.due("there are 7", x.comes(house), NONE);
            check.due("7 still", x.house(house, 1), 7);
            check.due("7 together", x.sum(0), 7);
            x.hide(house, 7);
            for (int n = 6; n >= 0; n--) {
                check.due("goes", x.goes(house), n);
                check.due("hidden no more than heads", x.house(house, 2), n);
            }
            check.due("there is none", x.goes(house), NONE);
            check.due("none still", x.house(house, 1), 0);
            check.due("acts", x.about(3), 15);
        }
        StoneCensus x = Texts.told(houses(1, 7));
        for (int hidden = 0; hidden <= 7; hidden++) {
            x.hide(0, hidden);
            x.goes(0);
            check.due("hidden of one less", x.house(0, 2), Math.min(hidden, 6));
            x.comes(0);
            check.due("who comes is not hidden", x.house(0, 2), Math.min(hidden, 6));
        }
    }

    /** Promise 10: "NONE, doing nothing, if one can't be (the same HOUSE, too), nobody is there, or there are 7". */
    private static void moving() {
        StoneCensus x = Texts.told("house a at 0 heads 7;house b at 0 heads 6;");
        x.hide(0, 7);
        check.due("to 7", x.moves(0, 1), 7);
        check.due("hidden no more than heads", x.house(0, 2), 6);
        check.due("there are 7", x.moves(0, 1), NONE);
        check.due("back", x.moves(1, 0), 7);
        check.due("who comes is not hidden", x.house(0, 2), 6);
        check.due("there are 7", x.moves(1, 0), NONE);
        check.due("13 together", x.sum(0), 13);
        check.due("the same house", x.moves(0, 0), NONE);
        check.due("the same house", x.moves(1, 1), NONE);
        x = Texts.told("house a at 0 heads 1;house b at 0 heads 0;");
        check.due("nobody is there", x.moves(1, 0), NONE);
        check.due("the last one", x.moves(0, 1), 1);
        check.due("nobody is there", x.moves(0, 1), NONE);
        check.due("acts", x.about(3), 1);
    }

    /** Promise 11: "how many were; NONE, doing nothing, if there are not so many". */
    private static void hiding() {
        for (int heads = 0; heads <= 7; heads++) {
            StoneCensus x = Texts.told(houses(1, heads));
            int were = 0;
            for (int n = 0; n <= heads; n++) {
                check.due("hide " + n + " of " + heads, x.hide(0, n), were);
                were = n;
            }
            check.due("hide more", x.hide(0, heads + 1), NONE);
            check.due("hide -1", x.hide(0, -1), NONE);
            check.due("still hidden", x.house(0, 2), heads);
            check.due("none any more", x.hide(0, 0), heads);
            check.due("acts", x.about(3), heads + 2);
        }
        StoneCensus x = Texts.told(houses(5, 7));
        for (int house = 0; house < 5; house++) {
            check.due("hide", x.hide(house, house + 1), 0);
        }
        for (int house = 4; house >= 0; house--) {
            check.due("how many were", x.hide(house, 7), house + 1);
        }
        check.due("all are hidden", x.sum(1), 35);
        check.due("and spit nothing", x.summer(), 0);
        check.due("all bowls", x.bowls(0), 0);
        check.due("all bowls missed", x.missed(0), 31);
    }

    /** Promise 12: "Stones (1 .. 99) are stolen: the BOWL then; NONE, doing nothing, if there are not so many". */
    private static void stealing() {
        for (int stones : new int[] {0, 1, 2, 50, 98, 99}) {
            for (int n : new int[] {MIN, -1, 0, 1, 2, 49, 50, 51, 97, 98, 99, 100, 101, MAX}) {
                StoneCensus x = Texts.told("house a at 0 heads 0;spit " + stones + ";");
                x.summer();
                boolean can = n >= 1 && n <= stones;
                check.due("steal " + n + " of " + stones, x.steal(0, n), can ? stones - n : NONE);
                check.due("the bowl", x.house(0, 3), can ? stones - n : stones);
                check.due("acts", x.about(3), can ? 2 : 1);
            }
        }
        StoneCensus x = Texts.told(houses(5, 7) + "draw 999;");
        check.due("before a summer", x.steal(0, 1), NONE);
        x.summer();
        for (int house = 0; house < 5; house++) {
            check.due("steal", x.steal(house, house + 1), 6 - house);
        }
        for (int house = 0; house < 5; house++) {
            check.due("what is left", x.house(house, 3), 6 - house);
            check.due("heads are there still", x.house(house, 1), 7);
        }
    }

    /** Draws with which the magpie takes 0, 1 or 2: all of them, and all numbers of houses; the bowls have 0 to 3 stones. */
    private static void magpies() {
        for (int draw = 0; draw <= 999; draw++) {
            int n = 1 + draw % 5;
            int heads = draw / 5 % 4;
            StoneCensus x = Texts.told(houses(n, heads) + "draw " + draw + ";");
            int seed = (draw * 137 + 71) % 1000;
            int taken = Math.min(heads, seed / 100 % 3);
            check.due("a summer by the draw " + draw, x.summer(), n * heads - taken);
            check.due("the seed", x.about(2), seed);
            for (int house = 0; house < n; house++) {
                check.due("bowl " + house, x.house(house, 3), house == seed % n ? heads - taken : heads);
            }
        }
    }

    /** "no more than are there": 2 of a bowl with 0, 1, 2, 3. The draw 3 makes the seed 482, the draw 2 makes it 345, 1: 208. */
    private static void magpieAtAnEmptyBowl() {
        for (int heads = 0; heads <= 3; heads++) {
            StoneCensus two = Texts.told(houses(1, heads) + "draw 1;");
            check.due("2 of " + heads, two.summer(), Math.max(0, heads - 2));
            StoneCensus one = Texts.told(houses(1, heads) + "draw 3;");
            check.due("1 of " + heads, one.summer(), Math.max(0, heads - 1));
            StoneCensus none = Texts.told(houses(1, heads) + "draw 2;");
            check.due("0 of " + heads, none.summer(), heads);
        }
    }

    /** "HEADS of each HOUSE are more by what comes of grow (.. -3 at least, 3 at most; 0 .. 7 then; HIDDEN no more than HEADS)". */
    private static void growing() {
        for (int more = -5; more <= 5; more++) {
            for (int heads = 0; heads <= 7; heads++) {
                StoneCensus x = Texts.told(houses(2, heads) + "grow " + told(more) + ";");
                x.hide(1, heads);
                int then = limited(heads + limited(more, -3, 3), 0, 7);
                check.due("foreseen", x.will(0, 1), then);
                x.summer();
                check.due("heads " + heads + " and " + more, x.house(0, 1), then);
                check.due("nobody hidden", x.house(0, 2), 0);
                check.due("heads " + heads + " and " + more, x.house(1, 1), then);
                check.due("hidden", x.house(1, 2), Math.min(heads, then));
            }
        }
        // Each house grows by what is before the summer, but for the bowl: that is what the magpie left (draw 1: 2 of a).
        StoneCensus x = Texts.told("house a at 0 heads 5;draw 1;grow stones-heads;");
        x.summer();
        check.due("two less, as two were taken", x.house(0, 1), 3);
        x = Texts.told("house a at 0 heads 5;grow year*1-1;");
        x.summer();
        check.due("by the year 0", x.house(0, 1), 4);
        x.summer();
        check.due("by the year 1", x.house(0, 1), 4);
        x.summer();
        check.due("by the year 2", x.house(0, 1), 5);
    }

    /** Promise 13: "NONE, doing nothing, behind 999 of them", which takes more calls than the document promises anything of. */
    private static void summersAtTheEnd() {
        StoneCensus x = Texts.told(houses(2, 3) + "draw 999;");
        int year = 0;
        while (year < 999) {
            check.due("a summer", x.summer() >= 0, true);
            year++;
        }
        check.due("acts", x.about(3), 40);
        int seed = x.about(2);
        check.due("behind 999", x.summer(), NONE);
        check.due("the year", x.about(1), 999);
        check.due("the seed", x.about(2), seed);
        check.due("undo", x.undo(), true);
        check.due("the 999th again", x.summer() >= 0, true);
        check.due("behind 999", x.summer(), NONE);
        check.due("foreseen all the same", x.will(1, 60), 3);
        check.due("foreseen all the same", x.bowls(60) >= 4, true);
    }

    private static void act(StoneCensus x, int sort) {
        switch (sort) {
            case 0 -> check.due("comes", x.comes(0) >= 0, true);
            case 1 -> check.due("goes", x.goes(0) >= 0, true);
            case 2 -> check.due("moves", x.moves(0, 1) >= 0, true);
            case 3 -> check.due("hide", x.hide(0, 1) >= 0, true);
            case 4 -> check.due("steal", x.steal(0, 1) >= 0, true);
            default -> check.due("summer", x.summer() >= 0, true);
        }
    }

    private static String row(StoneCensus x) {
        StringBuilder row = new StringBuilder();
        for (int house = 0; house < x.about(0); house++) {
            for (int what = 1; what <= 3; what++) {
                row.append(x.house(house, what)).append(' ');
            }
        }
        return row.append(x.about(1)).append(' ').append(x.about(2)).toString();
    }

    /** "UNDO takes back the latest ACT that was not, REDO does that again which was taken back last (till another ACT)". */
    private static void undoOfEachSort() {
        for (int sort = 0; sort < 6; sort++) {
            for (int other = 0; other < 6; other++) {
                StoneCensus x = Texts.told(houses(2, 4) + "draw 5;grow 0-(year=1);");
                x.summer();
                String before = row(x);
                act(x, sort);
                String then = row(x);
                check.due("the act is seen", before.equals(then), false);
                check.due("undo", x.undo(), true);
                check.due("as before", row(x).equals(before), true);
                check.due("redo", x.redo(), true);
                check.due("as then", row(x).equals(then), true);
                check.due("no more to redo", x.redo(), false);
                x.undo();
                check.due("to redo", x.about(4), 1);
                act(x, other);
                check.due("till another act", x.redo(), false);
                check.due("to redo", x.about(4), 0);
                check.due("to undo", x.about(3), 2);
            }
        }
    }

    /** The first ACT of all taken back: all is as told; and the first behind an image, all is as kept. */
    private static void undoOfTheFirst() {
        for (int sort : new int[] {0, 1, 2, 3, 5}) {
            StoneCensus x = Texts.told(houses(2, 4) + "draw 5;grow 1;");
            x.will(0, 3);
            String first = row(x);
            act(x, sort);
            check.due("the act is seen", row(x).equals(first), false);
            check.due("undo", x.undo(), true);
            check.due("as told", row(x).equals(first), true);
            check.due("undo of none", x.undo(), false);
            x.summer();
            x.image(0);
            String kept = row(x);
            x.back(0);
            x.will(0, 3);
            act(x, sort);
            check.due("undo", x.undo(), true);
            check.due("as kept", row(x).equals(kept), true);
            check.due("undo of none", x.undo(), false);
        }
    }

    /** "40 at most are kept, the oldest go." */
    private static void fortyActs() {
        for (int acts : new int[] {0, 1, 39, 40, 41, 42, 80, 81, 82, 123}) {
            StoneCensus x = Texts.told(houses(1, 3));
            for (int i = 0; i < acts; i++) {
                x.summer();
            }
            int kept = Math.min(acts, 40);
            check.due("kept of " + acts, x.about(3), kept);
            for (int i = 1; i <= kept; i++) {
                check.due("undo", x.undo(), true);
                check.due("the year", x.about(1), acts - i);
                check.due("to undo", x.about(3), kept - i);
                check.due("to redo", x.about(4), i);
            }
            check.due("undo of none", x.undo(), false);
            for (int i = 1; i <= kept; i++) {
                check.due("redo", x.redo(), true);
                check.due("the year", x.about(1), acts - kept + i);
            }
            check.due("redo of none", x.redo(), false);
            check.due("all again", x.about(3), kept);
        }
    }

    /** An act behind some that were undone takes the place of those; forty are kept with it. */
    private static void actsAmongUndone() {
        for (int undone = 0; undone <= 40; undone += 8) {
            StoneCensus x = Texts.told(houses(1, 3));
            for (int i = 0; i < 45; i++) {
                x.summer();
            }
            for (int i = 0; i < undone; i++) {
                x.undo();
            }
            x.goes(0);
            int kept = Math.min(40, 41 - undone);
            check.due("kept", x.about(3), kept);
            check.due("none to redo", x.about(4), 0);
            for (int i = 0; i < kept; i++) {
                check.due("undo", x.undo(), true);
            }
            check.due("undo of none", x.undo(), false);
            check.due("the oldest that is left", x.about(1), undone == 0 ? 6 : 5);
            check.due("who went is there", x.house(0, 1), 3);
        }
    }

    /** Promises 17 and 18: n 0 .. 60. */
    private static void foreseeing() {
        StoneCensus x = Texts.told(houses(2, 4) + "draw 8;grow 1-(year%2)*2;");
        x.summer();
        for (int n : new int[] {-1, 61, 62, MIN, MAX}) {
            check.due("will " + n, x.will(0, n), NONE);
            check.due("bowls " + n, x.bowls(n), NONE);
        }
        for (int house : new int[] {-1, 2, 5, MIN, MAX}) {
            check.due("will of " + house, x.will(house, 0), NONE);
        }
        for (int n = 0; n <= 60; n++) {
            check.due("will " + n, x.will(1, n), n % 2 == 0 ? 5 : 4);
        }
        check.due("bowls 0: as now", x.bowls(0), x.sum(2));
        x.steal(0, 1);
        check.due("bowls 0: as now, stolen from", x.bowls(0), x.sum(2));
        check.due("bowls without houses", new StoneCensus().bowls(60), 0);
        check.due("bowls without houses", new StoneCensus().bowls(61), NONE);
        check.due("will without houses", new StoneCensus().will(0, 0), NONE);
    }

    /** Promise 16: "FALSE: HOUSES whose BOWL is not their HEADS": one more, one less, as many. */
    private static void falseBowls() {
        StoneCensus x = Texts.told("house a at 0 heads 3;house b at 0 heads 3 habit 1;house c at 0 heads 0;house d at 0 heads 7;"
            + "house e at 0 heads 3;");
        check.due("all empty", x.falses(), 0b11011);
        x.hide(3, 1);
        x.hide(4, 3);
        x.summer();
        check.due("one more, one less, none of three", x.falses(), 0b11010);
        x.steal(1, 1);
        check.due("as many", x.falses(), 0b11000);
    }

    public static void main(String[] args) {
        limitsOfLaws();
        spitNotTold();
        wrapping();
        dividing();
        truthsOfLaws();
        whatLawsAreBy();
        lawsOfEachHouse();
        manyThatWait();
        askedWrongly();
        comingAndGoing();
        moving();
        hiding();
        stealing();
        magpies();
        magpieAtAnEmptyBowl();
        growing();
        summersAtTheEnd();
        undoOfEachSort();
        undoOfTheFirst();
        fortyActs();
        actsAmongUndone();
        foreseeing();
        falseBowls();
        check.finish();
    }
}
