/** Houses with told places and bowls. */
final class Bowls {
    private Bowls() {
    }

    /** All at place 0, without heads. */
    static StoneCensus of(int... stones) {
        return at(new int[stones.length], stones);
    }

    /** By the draw 0 the first summer's magpie takes nothing (the seed is 71), so each bowl has what the law makes of its jam. */
    static StoneCensus at(int[] places, int[] stones) {
        StringBuilder text = new StringBuilder();
        StringBuilder law = new StringBuilder("spit 0");
        for (int i = 0; i < stones.length; i++) {
            text.append("house ").append((char) ('a' + i)).append(" at ").append(places[i]).append(" heads 0 jam ").append(i).append(';');
            law.append("+(jam=").append(i).append(")*").append(stones[i]);
        }
        StoneCensus x = Texts.told(text.append(law).append(';').toString());
        x.summer();
        for (int i = 0; i < stones.length; i++) {
            if (x.house(i, 3) != stones[i]) {
                throw new IllegalStateException("bowl " + i + " has " + x.house(i, 3));
            }
        }
        return x;
    }
}
