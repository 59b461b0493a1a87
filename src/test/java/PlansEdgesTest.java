/** The edges that the document names in part 3 of its terms, and of promises 19 to 31. */
public final class PlansEdgesTest {
    private static final int NONE = StoneCensus.NONE;
    private static final int MIN = Integer.MIN_VALUE;
    private static final int MAX = Integer.MAX_VALUE;
    private static final Check check = new Check();

    private PlansEdgesTest() {
    }

    private static void leaveOf(StoneCensus x, int tax, int want, int... lying) {
        check.due("leave " + tax, x.leave(tax), want);
        check.lying("leave " + tax, x, lying);
    }

    /** Promise 19: "LEAVE (a TAX 0 .. 9,999): how many; NONE if it can't be, or for another TAX." */
    private static void taxesOfLeave() {
        StoneCensus x = Texts.told("house a at 0 heads 2;house b at 0 heads 1;");
        leaveOf(x, 3, 0, 0, 0);
        leaveOf(x, 2, 1, 0, 1);
        leaveOf(x, 1, 2, 1, 1);
        leaveOf(x, 0, 3, 2, 1);
        for (int tax : new int[] {-1, -2, 10000, 10001, MIN, MAX}) {
            leaveOf(x, 9999, 0, 0, 0);
            leaveOf(x, tax, NONE);
        }
        x = Texts.told("house a at 0 heads 7;house b at 0 heads 7;house c at 0 heads 7;house d at 0 heads 7;house e at 0 heads 7;"
            + "tax 999;");
        leaveOf(x, 4994, NONE);
        leaveOf(x, 4995, 0, 0, 0, 0, 0, 0);
        check.due("least", x.least(), 4995);
        leaveOf(new StoneCensus(), 0, 0);
        leaveOf(new StoneCensus(), 9999, 0);
        leaveOf(new StoneCensus(), 10000, NONE);
    }

    /** "no HOUSE SHOWS": stones as many as the jam, and one less. "NONE if some HOUSE SHOWS whatever is hidden." */
    private static void whatShows() {
        for (int jam = 0; jam <= 9; jam++) {
            StoneCensus x = Texts.told("house a at 0 heads 7 jam " + jam + ";house b at 0 heads 0;");
            check.due("least with jam " + jam, x.least(), jam <= 7 ? jam : NONE);
            if (jam <= 7) {
                leaveOf(x, jam, 7 - jam, 7 - jam, 0);
                if (jam > 0) {
                    leaveOf(x, jam - 1, NONE);
                }
            } else {
                leaveOf(x, 9999, NONE);
            }
        }
        // One that can't but show is enough.
        StoneCensus x = Texts.told("house a at 0 heads 0;house b at 0 heads 7;house c at 0 heads 0 jam 1;");
        check.due("least", x.least(), NONE);
        leaveOf(x, 9999, NONE);
        x.comes(2);
        check.due("least", x.least(), 1);
        leaveOf(x, 9999, 0, 0, 0, 0);
        x.hide(2, 1);
        check.due("it shows", x.house(2, 7), 1);
        leaveOf(x, 9999, 0, 0, 0, 0);
        check.due("without houses", new StoneCensus().least(), 0);
    }

    /** "the fewest together; of like ones the first (by HOUSES, the fewest first)". */
    private static void firstToHide() {
        String houses = "house a at 0 heads 2;house b at 0 heads 2;house c at 0 heads 2;";
        StoneCensus x = Texts.told(houses);
        int[][] want = {{2, 2, 2}, {1, 2, 2}, {0, 2, 2}, {0, 1, 2}, {0, 0, 2}, {0, 0, 1}, {0, 0, 0}};
        for (int tax = 0; tax <= 6; tax++) {
            leaveOf(x, tax, 6 - tax, want[tax]);
        }
        // The more are hidden the more is taxed: then nobody, whoever is hidden now.
        x = Texts.told(houses + "spit hidden+1;");
        x.hide(0, 2);
        leaveOf(x, 3, 0, 0, 0, 0);
        leaveOf(x, 2, NONE);
        check.due("least", x.least(), 3);
        // Only by two hidden there is less: not one each, but two of the last.
        x = Texts.told(houses + "tax 5-(stones=0)*4;");
        leaveOf(x, 14, 2, 0, 0, 2);
        leaveOf(x, 7, 4, 0, 2, 2);
        leaveOf(x, 6, 6, 2, 2, 2);
        leaveOf(x, 3, 6, 2, 2, 2);
        leaveOf(x, 2, NONE);
        // All seven of each, of five.
        x = Texts.told("house a at 0 heads 7;house b at 0 heads 7;house c at 0 heads 7;house d at 0 heads 7;house e at 0 heads 7;");
        leaveOf(x, 35, 0, 0, 0, 0, 0, 0);
        leaveOf(x, 34, 1, 0, 0, 0, 0, 1);
        leaveOf(x, 27, 8, 0, 0, 0, 1, 7);
        leaveOf(x, 1, 34, 6, 7, 7, 7, 7);
        leaveOf(x, 0, 35, 7, 7, 7, 7, 7);
        check.due("least", x.least(), 0);
    }

    private static void roundsBy(StoneCensus x, int noon, int want, int... lying) {
        check.due("rounds " + noon, x.rounds(noon), want);
        check.lying("rounds " + noon, x, lying);
    }

    /** Promise 21: "ROUNDS (noon 0 .. 999): how many counters; NONE if not even one for each HOUSE is enough". */
    private static void noonsOfRounds() {
        StoneCensus full = Bowls.at(new int[] {60, 60, 60, 60, 60}, new int[] {99, 99, 99, 99, 99});
        int[] noons = {60 + 5 * 99, 60 + 3 * 99, 60 + 2 * 99, 60 + 2 * 99, 60 + 99};
        for (int n = 1; n <= 5; n++) {
            check.due("noon " + n, full.noon(n), noons[n - 1]);
        }
        roundsBy(full, 999, 1, 0, 0, 0, 0, 0);
        roundsBy(full, 555, 1, 0, 0, 0, 0, 0);
        roundsBy(full, 554, 2, 0, 0, 0, 0, 1);
        roundsBy(full, 357, 2, 0, 0, 0, 1, 1);
        roundsBy(full, 356, 3, 0, 0, 1, 1, 2);
        roundsBy(full, 258, 3, 0, 0, 1, 1, 2);
        roundsBy(full, 257, 5, 0, 1, 2, 3, 4);
        roundsBy(full, 159, 5, 0, 1, 2, 3, 4);
        for (int noon : new int[] {158, 0, -1, -2, 1000, 1001, MIN, MAX}) {
            roundsBy(full, 159, 5, 0, 1, 2, 3, 4);
            roundsBy(full, noon, NONE);
        }
        StoneCensus none = new StoneCensus();
        roundsBy(none, 0, 0);
        roundsBy(none, 999, 0);
        roundsBy(none, 1000, NONE);
        roundsBy(none, -1, NONE);
        StoneCensus near = Bowls.at(new int[] {0, 0}, new int[] {0, 0});
        roundsBy(near, 0, 1, 0, 0);
        check.due("noon of nothing to do", near.noon(1), 0);
        near = Bowls.at(new int[] {0, 1}, new int[] {0, 0});
        roundsBy(near, 0, NONE);
        roundsBy(near, 1, 1, 0, 0);
        near = Bowls.at(new int[] {0, 0}, new int[] {0, 1});
        roundsBy(near, 0, NONE);
        roundsBy(near, 1, 1, 0, 0);
        near = Bowls.at(new int[] {0, 0}, new int[] {1, 1});
        roundsBy(near, 1, 2, 0, 1);
        roundsBy(near, 2, 1, 0, 0);
    }

    /** "of like ones the first (by HOUSES, which counter, each new one by the least number)". */
    private static void firstRounds() {
        StoneCensus x = Bowls.at(new int[] {9, 0, 0, 0}, new int[] {1, 4, 3, 3});
        // One by 20; two by 13: 9 + 1 + 3 and 4 + 3; by 12 three: 9 + 1 alone, then 4 + 3 and 3.
        roundsBy(x, 20, 1, 0, 0, 0, 0);
        roundsBy(x, 19, 2, 0, 0, 0, 1);
        roundsBy(x, 16, 2, 0, 0, 1, 1);
        roundsBy(x, 13, 2, 0, 1, 0, 1);
        roundsBy(x, 12, 2, 0, 1, 1, 1);
        roundsBy(x, 10, 2, 0, 1, 1, 1);
        roundsBy(x, 9, NONE);
        // The way up the road is walked once, whichever houses are counted on it.
        x = Bowls.at(new int[] {5, 3, 5}, new int[] {0, 0, 2});
        roundsBy(x, 7, 1, 0, 0, 0);
        roundsBy(x, 6, NONE);
    }

    /** Promise 22: "n counters (1 .. 5); NONE without HOUSES, or for another n". */
    private static void countersOfNoon() {
        StoneCensus x = Bowls.at(new int[] {60, 0}, new int[] {0, 99});
        int[] want = {NONE, 159, 99, 99, 99, 99, NONE};
        for (int n = 0; n < want.length; n++) {
            check.due("noon " + n, x.noon(n), want[n]);
            check.due("noon without houses " + n, new StoneCensus().noon(n), NONE);
        }
        for (int n : new int[] {-1, 7, MIN, MAX}) {
            check.due("noon " + n, x.noon(n), NONE);
        }
        // By that noon so many are enough, a minute before they are not.
        for (int n = 1; n <= 2; n++) {
            check.due("rounds by it", x.rounds(x.noon(n)) <= n, true);
            int sooner = x.rounds(x.noon(n) - 1);
            check.due("rounds a minute before", sooner == NONE || sooner > n, true);
        }
    }

    /** Promises 23 and 24: "HOUSES without whose BOWL all are it together", "by whose BOWL counted twice they are". */
    private static void missedAndDoubled() {
        StoneCensus full = Bowls.of(99, 99, 99, 99, 99);
        check.due("missed 396", full.missed(396), 31);
        check.due("missed 395", full.missed(395), 0);
        check.due("missed 397", full.missed(397), 0);
        check.due("doubled 594", full.doubled(594), 31);
        check.due("doubled 593", full.doubled(593), 0);
        check.due("doubled 595", full.doubled(595), 0);
        StoneCensus empty = Bowls.of(0, 0, 0);
        check.due("missed of empty ones", empty.missed(0), 7);
        check.due("doubled of empty ones", empty.doubled(0), 7);
        StoneCensus x = Bowls.of(1, 0, 2);
        for (int sum = -2; sum <= 8; sum++) {
            check.due("missed " + sum, x.missed(sum), sum == 2 ? 1 : sum == 3 ? 2 : sum == 1 ? 4 : 0);
            check.due("doubled " + sum, x.doubled(sum), sum == 4 ? 1 : sum == 3 ? 2 : sum == 5 ? 4 : 0);
        }
        for (int sum : new int[] {MIN, MIN + 1, MAX, MAX - 1}) {
            for (StoneCensus any : new StoneCensus[] {full, empty, x, new StoneCensus()}) {
                check.due("missed " + sum, any.missed(sum), 0);
                check.due("doubled " + sum, any.doubled(sum), 0);
            }
        }
        check.due("without houses", new StoneCensus().missed(0), 0);
        check.due("without houses", new StoneCensus().doubled(0), 0);
    }

    private static void seatsOf(StoneCensus x, int n, int law, int... want) {
        for (int house = 0; house < want.length; house++) {
            check.due("seats of " + house + " of " + n + " by law " + law, x.seats(house, n, law), want[house]);
        }
    }

    /** Promise 25: "SEATS of a HOUSE of n by LAW 0, 1; NONE if one can't be"; "SEATS (1 .. 20)". */
    private static void whichSeats() {
        StoneCensus x = Bowls.of(1, 0, 99);
        for (int law = 0; law <= 1; law++) {
            for (int n = 1; n <= 20; n++) {
                seatsOf(x, n, law, 0, 0, n);
            }
            for (int n : new int[] {0, -1, 21, 22, MIN, MAX}) {
                check.due("seats of " + n, x.seats(2, n, law), NONE);
                check.due("stone of " + n, x.stone(n, law), NONE);
                check.due("stone without houses", new StoneCensus().stone(n, law), NONE);
            }
            for (int house : new int[] {-1, 3, 4, 5, MIN, MAX}) {
                check.due("seats of house " + house, x.seats(house, 1, law), NONE);
            }
        }
        for (int law : new int[] {-1, 2, 3, MIN, MAX}) {
            check.due("law " + law, x.seats(2, 1, law), NONE);
            check.due("stone by law " + law, x.stone(1, law), NONE);
        }
        check.due("without houses", new StoneCensus().seats(0, 1, 0), NONE);
        check.due("stone without houses", new StoneCensus().stone(20, 1), 0);
    }

    /** "(Of like ones the first; none if all BOWLS are empty.)" */
    private static void likeSeats() {
        StoneCensus x = Bowls.of(99, 99, 99, 99, 99);
        for (int law = 0; law <= 1; law++) {
            for (int n = 1; n <= 20; n++) {
                for (int house = 0; house < 5; house++) {
                    check.due("like ones", x.seats(house, n, law), n / 5 + (house < n % 5 ? 1 : 0));
                }
            }
        }
        StoneCensus empty = Bowls.of(0, 0, 0, 0, 0);
        for (int law = 0; law <= 1; law++) {
            seatsOf(empty, 1, law, 0, 0, 0, 0, 0);
            seatsOf(empty, 20, law, 0, 0, 0, 0, 0);
            check.due("a first stone has all seats", empty.stone(1, law), 31);
            check.due("a first stone has all seats", empty.stone(20, law), 31);
        }
        check.due("no loss of empty ones", empty.loss(0), NONE);
        check.due("no loser of empty ones", empty.loss(1), NONE);
        // Rests 3, 3, 2 of 4 for 1 seat each: the first two; and by law 1 stones by one more: 6/2 is like 3/1.
        seatsOf(Bowls.of(3, 3, 2), 2, 0, 1, 1, 0);
        seatsOf(Bowls.of(3, 6), 2, 1, 1, 1);
        seatsOf(Bowls.of(6, 3), 2, 1, 2, 0);
        seatsOf(Bowls.of(6, 3), 3, 1, 2, 1);
        seatsOf(Bowls.of(2, 4, 6), 6, 1, 1, 2, 3);
        // An empty bowl has no seats by either law, though all others have many.
        seatsOf(Bowls.of(0, 1), 20, 0, 0, 20);
        seatsOf(Bowls.of(0, 1), 20, 1, 0, 20);
    }

    /** "ONE STONE: HOUSES by one stone more in whose BOWL some HOUSE has other SEATS." */
    private static void oneStone() {
        StoneCensus alone = Bowls.of(5);
        for (int n = 1; n <= 20; n++) {
            check.due("alone it has all", alone.stone(n, 0) + alone.stone(n, 1), 0);
        }
        StoneCensus two = Bowls.of(3, 3);
        check.due("of 1 seat", two.stone(1, 0), 0b10);
        check.due("of 2 seats", two.stone(2, 0), 0);
        // By law 1 of 2: 4/1, 4/2 < 3/1.
        check.due("of 2 seats by law 1", two.stone(2, 1), 0);
        check.due("1, 1 by law 1: 2/2 is like 1/1, the first", Bowls.of(1, 1).stone(2, 1), 0b01);
        // 3, 3, 2 of 2: a stone more for c makes 3, 3, 3 of 9, each rest is 6: still a, b; c needs two.
        check.due("3 3 2", Bowls.of(3, 3, 2).stone(2, 0), 0);
        check.due("3 2 2", Bowls.of(3, 2, 2).stone(2, 0), 0b100);
        // A bowl of 99 with one more.
        check.due("99 99", Bowls.of(99, 99).stone(1, 0), 0b10);
        check.due("99 99", Bowls.of(99, 99).stone(1, 1), 0b10);
        StoneCensus x = Bowls.of(99, 98);
        check.due("99 98", x.stone(1, 0), 0);
        check.due("nothing is done", x.sum(2), 197);
    }

    private static void lossOf(int seats, int house, int... stones) {
        StoneCensus x = Bowls.of(stones);
        check.due("loss 0", x.loss(0), seats);
        check.due("loss 1", x.loss(1), house);
        if (seats != NONE) {
            check.due("it has less", x.seats(house, seats, 0) < x.seats(house, seats - 1, 0), true);
        }
    }

    /** Promise 27: "LOSS what 0: that number, 1: the first such HOUSE; NONE if there is none"; "SEATS (2 .. 20)". */
    private static void losses() {
        lossOf(4, 0, 1, 3, 3);
        lossOf(4, 1, 3, 1, 3);
        lossOf(4, 2, 3, 3, 1);
        lossOf(20, 2, 11, 12, 2);
        // Of 20: 8, 11, 1, of 21: 9, 12, 0, and none before.
        lossOf(NONE, NONE, 69, 92, 4);
        lossOf(NONE, NONE, 3, 83, 69);
        // Of 5: 1, 1, 1, 1, 1, of 6: 0, 2, 2, 2, 0.
        lossOf(6, 0, 32, 92, 95, 96, 31);
        lossOf(6, 3, 92, 96, 99, 31, 31);
        lossOf(NONE, NONE, 5);
        lossOf(NONE, NONE, 5, 9);
        lossOf(NONE, NONE, 0, 0, 0);
        for (int what : new int[] {-1, 2, 3, MIN, MAX}) {
            check.due("loss " + what, Bowls.of(1, 3, 3).loss(what), NONE);
        }
        check.due("without houses", new StoneCensus().loss(0), NONE);
        check.due("without houses", new StoneCensus().loss(1), NONE);
    }

    /** Promise 28: "DRAFT of n (0 .. 35): how many of a HOUSE; NONE if there are not so many, or one can't be." */
    private static void drafts() {
        StoneCensus full = Texts.told("house a at 0 heads 7;house b at 0 heads 7;house c at 0 heads 7;house d at 0 heads 7;"
            + "house e at 0 heads 7;");
        for (int n = 0; n <= 35; n++) {
            for (int house = 0; house < 5; house++) {
                check.due("draft of " + n, full.draft(house, n), n / 5 + (house < n % 5 ? 1 : 0));
            }
        }
        for (int n : new int[] {-1, 36, 37, MIN, MAX}) {
            check.due("draft of " + n, full.draft(0, n), NONE);
        }
        for (int house : new int[] {-1, 5, 6, MIN, MAX}) {
            check.due("draft of house " + house, full.draft(house, 0), NONE);
        }
        StoneCensus empty = Texts.told("house a at 0 heads 0;house b at 0 heads 0;");
        check.due("none of nobody", empty.draft(0, 0), 0);
        check.due("one of nobody", empty.draft(0, 1), NONE);
        StoneCensus x = Texts.told("house a at 0 heads 1;house b at 0 heads 3;house c at 0 heads 2;");
        int[][] want = {{0, 0, 0}, {0, 1, 0}, {0, 2, 0}, {0, 2, 1}, {1, 2, 1}, {1, 3, 1}, {1, 3, 2}};
        for (int n = 0; n <= 6; n++) {
            for (int house = 0; house < 3; house++) {
                check.due("draft " + n + " of " + house, x.draft(house, n), want[n][house]);
            }
        }
        check.due("one too many", x.draft(1, 7), NONE);
        for (int house = 0; house < 5; house++) {
            full.hide(house, 7);
        }
        for (int n = 0; n <= 35; n++) {
            check.due("hidden ones are drafted alike", full.draft(4, n), n / 5);
        }
        check.due("without houses", new StoneCensus().draft(0, 0), NONE);
    }

    private static void chaseAt(int[] places, int... want) {
        StringBuilder text = new StringBuilder();
        for (int i = 0; i < places.length; i++) {
            text.append("house ").append((char) ('a' + i)).append(" at ").append(places[i]).append(" heads 0;");
        }
        StoneCensus x = Texts.told(text.toString());
        check.due("chase", x.chase(), want.length == 0 ? NONE : want.length);
        check.lying("chase", x, want);
        check.due("and again", x.chase(), want.length == 0 ? NONE : want.length);
        check.lying("chase", x, want);
    }

    /** Promise 29: "how many knocks; NONE without HOUSES"; "(by places, of like ones by numbers; he stays, if there is no other one)". */
    private static void chases() {
        chaseAt(new int[] {});
        chaseAt(new int[] {0}, 0);
        chaseAt(new int[] {60}, 0);
        chaseAt(new int[] {0, 0}, 0, 0);
        chaseAt(new int[] {60, 0}, 0, 0);
        chaseAt(new int[] {0, 1, 2}, 1, 1);
        chaseAt(new int[] {1, 0, 2}, 0, 0);
        chaseAt(new int[] {0, 2, 1}, 2, 2);
        chaseAt(new int[] {5, 5, 5}, 1, 1);
        chaseAt(new int[] {5, 5, 4}, 0, 0);
        chaseAt(new int[] {5, 6, 5}, 2, 2);
        chaseAt(new int[] {0, 1, 2, 3}, 1, 2, 2, 1);
        chaseAt(new int[] {3, 2, 1, 0}, 1, 2, 2, 1);
        chaseAt(new int[] {7, 7, 7, 7}, 1, 2, 2, 1);
        // By the road c, a, b, d, and d, b, a, c; then d, a, c, b.
        chaseAt(new int[] {1, 2, 0, 60}, 0, 1, 1, 0);
        chaseAt(new int[] {40, 30, 50, 0}, 0, 1, 1, 0);
        chaseAt(new int[] {1, 3, 2, 1}, 2, 3, 3, 2);
        chaseAt(new int[] {0, 1, 2, 3, 4}, 1, 2, 3, 1, 2, 3);
        chaseAt(new int[] {9, 9, 9, 9, 9}, 1, 2, 3, 1, 2, 3);
        // By the road e, d, c, b, a.
        chaseAt(new int[] {4, 3, 2, 1, 0}, 1, 2, 3, 1, 2, 3);
        // By the road b, a, c, e, d: inside stand a, c, e.
        chaseAt(new int[] {1, 0, 2, 4, 3}, 0, 2, 4, 0, 2, 4);
        // By the road a, e, b, d, c: inside stand e, b, d; from d on is before from e on.
        chaseAt(new int[] {0, 2, 4, 3, 1}, 3, 1, 4, 3, 1, 4);
    }

    private static void marksOf(int marked, int seen, int again, int want) {
        check.due("marks " + marked + " " + seen + " " + again, new StoneCensus().marks(marked, seen, again), want);
    }

    /** Promise 30: "MARKS (marked, seen 0 .. 60, of these marked ones): .. NONE if one can't be (more of these than ..)". */
    private static void marks() {
        for (int wrong : new int[] {-1, 61, 62, MIN, MAX}) {
            marksOf(wrong, 5, 0, NONE);
            marksOf(5, wrong, 0, NONE);
            marksOf(5, 5, wrong, NONE);
            marksOf(wrong, wrong, wrong, NONE);
        }
        for (int n = 0; n <= 60; n++) {
            marksOf(n, n, n, n);
            marksOf(n, n, n + 1, NONE);
            marksOf(n, 60, n + 1, NONE);
            marksOf(60, n, n + 1, NONE);
            marksOf(60, n, n, 60);
            marksOf(n, 60, n, 60);
            marksOf(n, 0, 0, n);
            marksOf(0, n, 0, n);
            marksOf(n, 0, 1, NONE);
            marksOf(0, n, 1, NONE);
        }
        // Marked by seen by again is a whole number: that and one less are alike, the least; else it is cut.
        marksOf(60, 10, 3, 199);
        marksOf(50, 4, 1, 199);
        marksOf(20, 10, 1, 199);
        marksOf(40, 10, 2, 199);
        marksOf(59, 51, 15, 200);
        marksOf(51, 59, 15, 200);
        marksOf(57, 7, 2, 199);
        marksOf(60, 60, 18, 199);
        marksOf(60, 60, 17, 200);
        marksOf(43, 14, 3, 200);
        marksOf(6, 33, 1, 197);
        marksOf(60, 60, 0, 200);
        marksOf(1, 1, 0, 200);
        marksOf(2, 1, 1, 2);
        marksOf(2, 3, 2, 3);
        marksOf(2, 2, 1, 3);
        marksOf(3, 2, 1, 5);
        marksOf(7, 3, 2, 10);
        marksOf(0, 0, 0, 0);
        marksOf(0, 0, 1, NONE);
        marksOf(0, 0, -1, NONE);
    }

    /** What was worked out for a province with more houses is not there in the next. */
    private static void fewerHouses() {
        StoneCensus x = Bowls.at(new int[] {5, 4, 3, 2, 1}, new int[] {1, 1, 1, 1, 1});
        check.due("leave of five", x.leave(9999), NONE);
        check.due("rounds of five: a, b with c, d with e", x.rounds(6), 3);
        check.due("chase of five", x.chase(), 6);
        for (int n = 1; n <= 5; n++) {
            check.due("stone of five by " + n, x.stone(n, 0) >= 0, true);
            check.due("stone of five by " + n, x.stone(n, 1) >= 0, true);
        }
        check.due("loss of five", x.loss(0), NONE);
        check.due("truths of five", x.truths(0), 32768);
        check.due("knock of five", x.knock(1, 0), 4096);
        Texts.tell(x, "house a at 0 heads 5;house b at 1 heads 5;");
        check.due("a summer", x.summer(), 10);
        leaveOf(x, 9, 1, 0, 1);
        leaveOf(x, 0, 10, 5, 5);
        check.due("least", x.least(), 0);
        roundsBy(x, 11, 1, 0, 0);
        roundsBy(x, 10, 2, 0, 1);
        roundsBy(x, 5, NONE);
        check.due("stone of two", x.stone(2, 0), 0);
        check.due("stone of two", x.stone(1, 0), 0b10);
        check.due("loss of two", x.loss(0), NONE);
        check.due("draft of two", x.draft(1, 3), 1);
        check.due("chase of two", x.chase(), 2);
        check.lying("chase of two", x, 0, 0);
        check.due("truths of two", x.truths(0), 64);
        check.due("knock of two", x.knock(1, 0), 8);
        x.province();
        check.due("leave of none", x.leave(0), 0);
        check.due("rounds of none", x.rounds(0), 0);
        check.due("noon of none", x.noon(1), NONE);
        check.due("chase of none", x.chase(), NONE);
        check.due("stone of none", x.stone(1, 0), 0);
        check.due("missed of none", x.missed(0), 0);
        check.due("truths of none", x.truths(0), 1);
    }

    /** Promise 31: "The i-th number of what lies there; NONE if there is none such", by each call that lays something. */
    private static void whatLies() {
        StoneCensus x = Texts.told("house a at 0 heads 1;house b at 1 heads 2;house c at 2 heads 3;");
        check.lying("nothing at first", x);
        x.leave(0);
        check.lying("leave", x, 1, 2, 3);
        x.rounds(2);
        check.lying("rounds", x, 0, 0, 0);
        x.chase();
        check.lying("chase", x, 1, 1);
        x.report(7, 21, 21);
        x.liars(0);
        check.lying("liars", x, 7, 7, 7);
        x.rounds(1);
        check.lying("rounds that can't be", x);
        x.liars(0);
        x.leave(-1);
        check.lying("leave for another tax", x);
        x.liars(0);
        for (int i : new int[] {-1, 3, 4, 7, 8, MIN, MAX}) {
            check.due("lies " + i, x.lies(i), NONE);
        }
        x = new StoneCensus();
        check.due("chase without houses", x.chase(), NONE);
        check.lying("chase without houses", x);
        x.liars(0);
        check.lying("liars without houses", x);
    }

    public static void main(String[] args) {
        taxesOfLeave();
        whatShows();
        firstToHide();
        noonsOfRounds();
        firstRounds();
        countersOfNoon();
        missedAndDoubled();
        whichSeats();
        likeSeats();
        oneStone();
        losses();
        drafts();
        chases();
        marks();
        fewerHouses();
        whatLies();
        check.finish();
    }
}
