/** Puts texts on the tape. */
final class Texts {
    private Texts() {
    }

    /** The numbers of one feed: twenty bytes from a place of the text on, zeros behind its end. */
    static int[] five(String text, int from) {
        int[] numbers = new int[5];
        for (int i = 0; i < 20; i++) {
            int c = from + i < text.length() ? text.charAt(from + i) & 255 : 0;
            numbers[i / 4] = numbers[i / 4] << 8 | c;
        }
        return numbers;
    }

    static void put(StoneCensus x, String text) {
        x.end(0);
        for (int from = 0; from < text.length(); from += 20) {
            int[] f = five(text, from);
            x.feed(f[0], f[1], f[2], f[3], f[4]);
        }
        x.end(text.length());
    }

    static int tell(StoneCensus x, String text) {
        put(x, text);
        return x.province();
    }

    static StoneCensus told(String text) {
        StoneCensus x = new StoneCensus();
        if (tell(x, text) < 0) {
            throw new IllegalStateException("a fault " + x.fault(0) + " at " + x.fault(1) + " in: " + text);
        }
        return x;
    }
}
