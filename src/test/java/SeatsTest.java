/** Promises 23 to 27: missed, doubled, seats, stone, loss. */
public final class SeatsTest {
    private static final int NONE = StoneCensus.NONE;
    private static final Check check = new Check();

    private SeatsTest() {
    }

    /** With such bowls: by the seed 0 the first summer's magpie takes nothing. */
    private static StoneCensus bowls(int... stones) {
        StringBuilder text = new StringBuilder();
        StringBuilder law = new StringBuilder("spit 0");
        for (int i = 0; i < stones.length; i++) {
            text.append("house ").append((char) ('a' + i)).append(" at 0 heads 0 jam ").append(i).append(';');
            law.append("+(jam=").append(i).append(")*").append(stones[i]);
        }
        StoneCensus x = Texts.told(text.append(law).append(';').toString());
        x.summer();
        for (int i = 0; i < stones.length; i++) {
            check.due("a bowl", x.house(i, 3), stones[i]);
        }
        return x;
    }

    private static void missedAndDoubled() {
        StoneCensus x = bowls(4, 0, 4, 9, 1);
        check.due("missed 14", x.missed(14), 0b00101);
        check.due("missed 18", x.missed(18), 0b00010);
        check.due("missed 9", x.missed(9), 0b01000);
        check.due("missed 17", x.missed(17), 0b10000);
        check.due("missed 16", x.missed(16), 0);
        check.due("missed -1", x.missed(-1), 0);
        check.due("doubled 22", x.doubled(22), 0b00101);
        check.due("doubled 18", x.doubled(18), 0b00010);
        check.due("doubled 27", x.doubled(27), 0b01000);
        check.due("doubled 19", x.doubled(19), 0b10000);
        check.due("doubled 20", x.doubled(20), 0);
        check.due("doubled min", x.doubled(Integer.MIN_VALUE), 0);
        x = new StoneCensus();
        check.due("missed without houses", x.missed(0), 0);
        check.due("doubled without houses", x.doubled(0), 0);
    }

    private static void seatsOf(StoneCensus x, int n, int law, int... want) {
        for (int house = 0; house < want.length; house++) {
            check.due("seats " + house + " " + n + " " + law, x.seats(house, n, law), want[house]);
        }
    }

    private static void seats() {
        StoneCensus x = bowls(5, 3, 1);
        seatsOf(x, 1, 0, 1, 0, 0);
        seatsOf(x, 4, 0, 2, 1, 1);
        seatsOf(x, 5, 0, 3, 2, 0);
        seatsOf(x, 9, 0, 5, 3, 1);
        seatsOf(x, 4, 1, 3, 1, 0);
        seatsOf(x, 9, 1, 5, 3, 1);
        // 100/9 = 11 and 1, 60/9 = 6 and 6, 20/9 = 2 and 2.
        seatsOf(x, 20, 0, 11, 7, 2);
        seatsOf(x, 20, 1, 11, 7, 2);
        x = bowls(2, 2, 2);
        seatsOf(x, 2, 0, 1, 1, 0);
        seatsOf(x, 4, 0, 2, 1, 1);
        seatsOf(x, 2, 1, 1, 1, 0);
        seatsOf(x, 4, 1, 2, 1, 1);
        check.due("21 seats", x.seats(0, 21, 0), NONE);
        check.due("no seats", x.seats(0, 0, 0), NONE);
        check.due("law 2", x.seats(0, 1, 2), NONE);
        check.due("law -1", x.seats(0, 1, -1), NONE);
        check.due("house 3", x.seats(3, 1, 0), NONE);
        check.due("house -1", x.seats(-1, 1, 0), NONE);
        x = bowls(0, 0);
        seatsOf(x, 7, 0, 0, 0);
        seatsOf(x, 7, 1, 0, 0);
        x = bowls(0, 1, 0);
        seatsOf(x, 7, 0, 0, 7, 0);
        seatsOf(x, 7, 1, 0, 7, 0);
    }

    private static void oneStone() {
        StoneCensus x = bowls(1, 1);
        check.due("stone 1 0", x.stone(1, 0), 0b10);
        check.due("stone 1 1", x.stone(1, 1), 0b10);
        check.due("stone 2 0", x.stone(2, 0), 0);
        check.due("stone 2 1", x.stone(2, 1), 0b01);
        check.due("stone 0", x.stone(0, 0), NONE);
        check.due("stone 21", x.stone(21, 0), NONE);
        check.due("law 2", x.stone(1, 2), NONE);
        check.due("law -1", x.stone(1, -1), NONE);
        check.due("nothing is done", x.sum(2), 2);
        x = bowls(0, 0, 0);
        check.due("the first stone of all", x.stone(3, 0), 0b111);
        check.due("the first stone of all", x.stone(3, 1), 0b111);
        x = bowls(99, 98);
        check.due("a hundredth stone", x.stone(1, 0), 0);
        x = new StoneCensus();
        check.due("without houses", x.stone(1, 0), 0);
        check.due("without houses, 0 seats", x.stone(0, 0), NONE);
    }

    private static void losses() {
        // 6, 6, 2: of 3 seats 1, 1, 1; of 4 seats 2, 2, 0.
        StoneCensus x = bowls(6, 6, 2);
        seatsOf(x, 3, 0, 1, 1, 1);
        seatsOf(x, 4, 0, 2, 2, 0);
        check.due("loss 0", x.loss(0), 4);
        check.due("loss 1", x.loss(1), 2);
        check.due("loss 2", x.loss(2), NONE);
        check.due("loss -1", x.loss(-1), NONE);
        // 5, 3, 1: of 4 seats 2, 1, 1; of 5 seats 3, 2, 0.
        x = bowls(5, 3, 1);
        check.due("loss 0", x.loss(0), 5);
        check.due("loss 1", x.loss(1), 2);
        x = bowls(2, 0, 6, 6);
        check.due("loss 0", x.loss(0), 4);
        check.due("loss 1", x.loss(1), 0);
        // Of 19 seats 1, 8, 10; of 20 seats 0, 9, 11.
        x = bowls(3, 55, 67);
        check.due("loss 0", x.loss(0), 20);
        check.due("loss 1", x.loss(1), 0);
        x = bowls(1, 1);
        check.due("no loss", x.loss(0), NONE);
        check.due("no loser", x.loss(1), NONE);
        check.due("without bowls", bowls(0, 0).loss(0), NONE);
        check.due("without houses", new StoneCensus().loss(1), NONE);
    }

    public static void main(String[] args) {
        missedAndDoubled();
        seats();
        oneStone();
        losses();
        check.finish();
    }
}
