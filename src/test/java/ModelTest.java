import java.util.Random;

/** Long runs of drawn calls: StoneCensus answers each as the Model does. The draws are the same each time. */
public final class ModelTest {
    private static int wrong;
    private static long calls;

    private final Random draws;
    private final StoneCensus x = new StoneCensus();
    private final Model m = new Model();
    private final StringBuilder log = new StringBuilder();
    private boolean failed;

    private ModelTest(long seed) {
        draws = new Random(seed);
    }

    private int below(int n) {
        return draws.nextInt(n);
    }

    private boolean oneIn(int n) {
        return draws.nextInt(n) == 0;
    }

    private int anyHouse() {
        return oneIn(12) ? strange() : below(Math.max(1, m.n()));
    }

    private int strange() {
        int[] all = {-1, 5, 6, 7, 20, 21, 35, 36, 60, 61, 99, 100, 999, 1000, 1001, 9999, 10000, -2, Integer.MAX_VALUE,
            Integer.MIN_VALUE, 1 << 16};
        return oneIn(4) ? draws.nextInt() : all[below(all.length)];
    }

    private int upTo(int most) {
        return oneIn(15) ? strange() : below(most + 1);
    }

    private int when() {
        return oneIn(12) ? strange() : below(m.about(6) + 2);
    }

    private void same(String call, long got, long want) {
        calls++;
        log.append(call).append(" -> ").append(got).append('\n');
        if (got != want && !failed) {
            failed = true;
            wrong++;
            System.out.println(log + "due is " + want + "\n");
        }
    }

    private void same(String call, boolean got, boolean want) {
        same(call, got ? 1 : 0, want ? 1 : 0);
    }

    private void tell(String text) {
        log.append("text: ").append(text).append('\n');
        x.end(0);
        m.end(0);
        for (int from = 0; from < text.length(); from += 20) {
            int[] f = Texts.five(text, from);
            same("feed", x.feed(f[0], f[1], f[2], f[3], f[4]), m.feed(f));
        }
        same("end", x.end(text.length()), m.end(text.length()));
        same("province", x.province(), m.province());
        same("fault(0)", x.fault(0), m.fault(0));
        same("fault(1)", x.fault(1), m.fault(1));
        same("about(8)", x.about(8), m.about(8));
    }

    private void act() {
        int h = anyHouse();
        int g = anyHouse();
        switch (below(9)) {
            case 0 -> same("comes " + h, x.comes(h), m.comes(h));
            case 1 -> same("goes " + h, x.goes(h), m.goes(h));
            case 2 -> same("moves " + h + " " + g, x.moves(h, g), m.moves(h, g));
            case 3 -> {
                int n = upTo(7);
                same("hide " + h + " " + n, x.hide(h, n), m.hide(h, n));
            }
            case 4 -> {
                int n = upTo(9);
                same("steal " + h + " " + n, x.steal(h, n), m.steal(h, n));
            }
            case 5, 6 -> same("summer", x.summer(), m.summer());
            case 7 -> {
                for (int i = below(50); i >= 0; i -= 3) {
                    same("undo", x.undo(), m.undo());
                }
            }
            default -> same("redo", x.redo(), m.redo());
        }
    }

    private void ask() {
        int h = anyHouse();
        switch (below(14)) {
            case 0 -> same("falses", x.falses(), m.falses());
            case 1 -> {
                int n = upTo(60);
                same("will " + h + " " + n, x.will(h, n), m.will(h, n));
            }
            case 2 -> {
                int n = upTo(60);
                same("bowls " + n, x.bowls(n), m.bowls(n));
            }
            case 3 -> {
                int t = oneIn(3) ? upTo(9999) : upTo(m.sum(5) + 3);
                same("leave " + t, x.leave(t), m.leave(t));
            }
            case 4 -> same("least", x.least(), m.least());
            case 5 -> {
                int t = upTo(oneIn(2) ? 40 : 120);
                same("rounds " + t, x.rounds(t), m.rounds(t));
            }
            case 6 -> {
                int n = upTo(5);
                same("noon " + n, x.noon(n), m.noon(n));
            }
            case 7 -> {
                int s = upTo(m.sum(2) + 3);
                same("missed " + s, x.missed(s), m.missed(s));
                s = upTo(2 * m.sum(2) + 3);
                same("doubled " + s, x.doubled(s), m.doubled(s));
            }
            case 8 -> {
                int n = upTo(20);
                int law = oneIn(9) ? strange() : below(2);
                same("seats " + h + " " + n + " " + law, x.seats(h, n, law), m.seats(h, n, law));
                same("stone " + n + " " + law, x.stone(n, law), m.stone(n, law));
            }
            case 9 -> {
                int w = upTo(1);
                same("loss " + w, x.loss(w), m.loss(w));
            }
            case 10 -> {
                int n = upTo(Math.min(35, m.sum(0) + 1));
                same("draft " + h + " " + n, x.draft(h, n), m.draft(h, n));
            }
            case 11 -> {
                if (m.n() < 5 || oneIn(10)) {
                    same("chase", x.chase(), m.chase());
                }
            }
            case 12 -> {
                int a = upTo(60);
                int b = upTo(60);
                int c = upTo(Math.max(0, Math.min(a & 63, b & 63)));
                same("marks " + a + " " + b + " " + c, x.marks(a, b, c), Model.marks(a, b, c));
            }
            default -> {
                int w = upTo(9);
                same("house " + h + " " + w, x.house(h, w), m.house(h, w));
                same("sum " + w, x.sum(w), m.sum(w));
            }
        }
    }

    private void tellOfHouses() {
        int k = when();
        int h = anyHouse();
        switch (below(13)) {
            case 0, 1, 2 -> {
                int set = oneIn(9) ? strange() : 1 + below(Math.max(1, (1 << m.n()) - 1));
                int least = upTo(7 * Integer.bitCount(set & 31));
                int most = oneIn(3) ? least : Math.min(35, least + below(12));
                same("report " + set + " " + least + " " + most, x.report(set, least, most), m.report(set, least, most));
            }
            case 3 -> {
                int r = upTo(30);
                same("untell " + r, x.untell(r), m.untell(r));
            }
            case 4 -> {
                int by = oneIn(3) ? upTo(1000) : below(2);
                same("later " + by, x.later(by), m.later(by));
            }
            case 5, 6 -> same("truths " + k, x.truths(k), m.truths(k));
            case 7 -> {
                int w = upTo(1);
                same("range " + h + " " + w + " " + k, x.range(h, w, k), m.range(h, w, k));
            }
            case 8, 9 -> same("liars " + k, x.liars(k), m.liars(k));
            case 10 -> {
                int w = upTo(1);
                same("knock " + w + " " + k, x.knock(w, k), m.knock(w, k));
            }
            case 11 -> {
                int w = upTo(1);
                same("tells " + w + " " + k, x.tells(w, k), m.tells(w, k));
            }
            default -> {
                int heads = upTo(7);
                int part = upTo(1);
                same("odds " + h + " " + heads + " " + part + " " + k, x.odds(h, heads, part, k), m.odds(h, heads, part, k));
            }
        }
    }

    private void keep() {
        int box = upTo(2);
        if (oneIn(2)) {
            same("image " + box, x.image(box), m.image(box));
        } else {
            same("back " + box, x.back(box), m.back(box));
        }
    }

    private void lookAround() {
        for (int w = -1; w <= 10; w++) {
            same("about " + w, x.about(w), m.about(w));
            same("lies " + w, x.lies(w), m.lies(w));
        }
        for (int h = 0; h < m.n(); h++) {
            for (int w = 1; w <= 9; w++) {
                same("house " + h + " " + w, x.house(h, w), m.house(h, w));
            }
        }
    }

    /** More calls than the document allows are made here only to look around; the answers hold all the same. */
    private void run(DrawnTexts texts, int steps) {
        tell(texts.valid());
        for (int i = 0; i < steps && !failed; i++) {
            int kind = below(100);
            if (kind < 40) {
                act();
            } else if (kind < 70) {
                ask();
            } else if (kind < 94) {
                tellOfHouses();
            } else if (kind < 98) {
                keep();
            } else if (kind < 99) {
                tell(oneIn(3) ? texts.valid() : texts.broken());
            }
            if (oneIn(8)) {
                lookAround();
            }
        }
    }

    private void runTexts(DrawnTexts texts, int count) {
        for (int i = 0; i < count && !failed; i++) {
            log.setLength(0);
            tell(oneIn(3) ? texts.valid() : texts.broken());
            if (m.fault(0) == 0) {
                same("sum 3", x.sum(3), m.sum(3));
                same("sum 5", x.sum(5), m.sum(5));
                same("bowls", x.bowls(7), m.bowls(7));
            }
        }
    }

    /** Up to thirty reports, most of them so by one row: few truths, and few liars, are left by all of them. */
    private void runReports(int houses) {
        StringBuilder text = new StringBuilder();
        int[] row = new int[houses];
        for (int h = 0; h < houses; h++) {
            text.append("house ").append((char) ('a' + h)).append(" at 1 heads 1;");
            row[h] = below(8);
        }
        tell(text.toString());
        int liarsIn = 2 + below(20);
        int wide = 1 + below(12);
        for (int i = 0; i < 31 && !failed; i++) {
            int set = 1 + below((1 << houses) - 1);
            int sum = 0;
            for (int h = 0; h < houses; h++) {
                sum += (set >> h & 1) * row[h];
            }
            int least = oneIn(liarsIn) ? below(7 * Integer.bitCount(set) + 1) : Math.max(0, sum - below(wide));
            int most = Math.min(35, Math.max(least, sum + below(wide)));
            same("report " + set + " " + least + " " + most, x.report(set, least, most), m.report(set, least, most));
            if (oneIn(4)) {
                same("later", x.later(1), m.later(1));
            }
            int k = oneIn(3) ? when() : m.about(6);
            same("truths " + k, x.truths(k), m.truths(k));
            same("liars " + k, x.liars(k), m.liars(k));
            for (int h = 0; h < houses; h++) {
                same("lies " + h, x.lies(h), m.lies(h));
            }
            for (int what = 0; what < 2; what++) {
                int h = below(houses);
                same("tells " + what + " " + k, x.tells(what, k), m.tells(what, k));
                same("knock " + what + " " + k, x.knock(what, k), m.knock(what, k));
                same("range " + h + " " + what + " " + k, x.range(h, what, k), m.range(h, what, k));
                int heads = oneIn(2) ? row[h] : below(8);
                same("odds " + h + " " + heads + " " + what + " " + k, x.odds(h, heads, what, k), m.odds(h, heads, what, k));
            }
            if (oneIn(6)) {
                int r = below(i + 1);
                same("untell " + r, x.untell(r), m.untell(r));
            }
        }
    }

    private static void allMarks() {
        StoneCensus x = new StoneCensus();
        for (int a = -1; a <= 61; a += 3) {
            for (int b = -1; b <= 61; b += 2) {
                for (int c = -1; c <= 61; c++) {
                    int want = Model.marks(a, b, c);
                    int got = x.marks(a, b, c);
                    calls++;
                    if (got != want) {
                        wrong++;
                        System.out.println("marks " + a + " " + b + " " + c + " -> " + got + ", due is " + want);
                    }
                }
            }
        }
    }

    public static void main(String[] args) {
        int rounds = args.length > 0 ? Integer.parseInt(args[0]) : 60;
        int from = args.length > 1 ? Integer.parseInt(args[1]) : 0;
        allMarks();
        for (int seed = from; seed < from + rounds && wrong < 3; seed++) {
            ModelTest test = new ModelTest(seed);
            test.run(new DrawnTexts(test.draws), 400);
            ModelTest texts = new ModelTest(1000000 + seed);
            texts.runTexts(new DrawnTexts(texts.draws), 400);
            ModelTest reports = new ModelTest(2000000 + seed);
            reports.runReports(1 + seed % 5);
        }
        System.out.println(calls + " answers compared, " + wrong + " runs wrong");
        if (wrong != 0) {
            System.exit(1);
        }
    }
}
