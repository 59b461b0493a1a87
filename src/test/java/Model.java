import java.math.BigInteger;
import java.util.ArrayDeque;
import java.util.ArrayList;
import java.util.Arrays;
import java.util.Deque;
import java.util.HashMap;
import java.util.HashSet;
import java.util.List;
import java.util.Map;
import java.util.Set;
import java.util.function.IntBinaryOperator;

/** The document once more, as plainly as can be and with the whole library: what StoneCensus is compared with. */
final class Model {
    static final int NONE = -1;
    static final Set<String> RESERVED = Set.of("house", "at", "heads", "jam", "habit", "spit", "tax", "grow", "draw",
        "or", "and", "not", "hidden", "stones", "year");

    interface Law {
        int of(Map<String, Integer> values);
    }

    record Told(String name, int place, int heads, int jam, int habit) {
    }

    record Report(int set, int least, int most, int told, int[] untold) {
    }

    static final class State {
        int[] heads = new int[5];
        int[] hidden = new int[5];
        int[] bowl = new int[5];
        int year;
        int seed;

        State copy() {
            State s = new State();
            s.heads = heads.clone();
            s.hidden = hidden.clone();
            s.bowl = bowl.clone();
            s.year = year;
            s.seed = seed;
            return s;
        }
    }

    StringBuilder tape = new StringBuilder();
    List<Told> houses = new ArrayList<>();
    Law spit;
    Law tax;
    Law grow;
    int units;
    int fault;
    int faultPlace = NONE;
    State now = new State();
    Deque<State> done = new ArrayDeque<>();
    Deque<State> undone = new ArrayDeque<>();
    List<Integer> lying = new ArrayList<>();
    List<Report> reports = new ArrayList<>();
    State[] boxes = new State[3];
    int time;

    // ---- the text

    static final class Fault extends RuntimeException {
        private static final long serialVersionUID = 1;
        final int what;
        final int place;

        Fault(int what, int place) {
            this.what = what;
            this.place = place;
        }
    }

    record Token(String text, int place, boolean bad) {
    }

    static final class Parser {
        final List<Token> tokens = new ArrayList<>();
        int i;
        List<Told> houses = new ArrayList<>();
        Map<String, Law> laws = new HashMap<>();
        Integer draw;
        int units;
        int unitsHere;

        Parser(String text) {
            int p = 0;
            while (p < text.length()) {
                char c = text.charAt(p);
                if (c == ' ' || c == '\n') {
                    p++;
                    continue;
                }
                String rest = text.substring(p);
                String token;
                boolean bad = false;
                if (c >= 'a' && c <= 'z') {
                    token = rest.replaceFirst("(?s)^([a-z]+).*$", "$1");
                    bad = token.length() > 8;
                } else if (c >= '0' && c <= '9') {
                    token = rest.replaceFirst("(?s)^([0-9]+).*$", "$1");
                    bad = token.length() > 4 || rest.matches("(?s)[0-9]+[a-z].*");
                } else {
                    token = "" + c;
                    bad = ";()<>=+-*/%".indexOf(c) < 0;
                }
                tokens.add(new Token(token, p, bad));
                p += token.length();
            }
            tokens.add(new Token("", text.length(), false));
        }

        String peek() {
            Token t = tokens.get(i);
            if (t.bad()) {
                throw new Fault(1, t.place());
            }
            return t.text();
        }

        int place() {
            return tokens.get(i).place();
        }

        String take() {
            String s = peek();
            i++;
            return s;
        }

        void cannot() {
            throw new Fault(2, place());
        }

        void take(String wanted) {
            if (!peek().equals(wanted)) {
                cannot();
            }
            i++;
        }

        int number(int most) {
            if (!peek().matches("[0-9]+")) {
                cannot();
            }
            int n = Integer.parseInt(peek());
            if (n > most) {
                throw new Fault(4, place());
            }
            i++;
            return n;
        }

        void all() {
            while (!peek().isEmpty()) {
                String word = peek();
                switch (word) {
                    case "house" -> houseLine();
                    case "spit", "tax", "grow" -> {
                        if (laws.containsKey(word)) {
                            cannot();
                        }
                        take();
                        unitsHere = 0;
                        laws.put(word, either(0));
                    }
                    case "draw" -> {
                        if (draw != null) {
                            cannot();
                        }
                        take();
                        draw = number(999);
                    }
                    default -> cannot();
                }
                take(";");
            }
        }

        void houseLine() {
            if (houses.size() == 5) {
                cannot();
            }
            take();
            String name = peek();
            if (!name.matches("[a-z]+") || RESERVED.contains(name)) {
                cannot();
            }
            if (houses.stream().anyMatch(h -> h.name().equals(name))) {
                throw new Fault(3, place());
            }
            take();
            take("at");
            int place = number(60);
            take("heads");
            int heads = number(7);
            int jam = 0;
            int habit = 0;
            if (peek().equals("jam")) {
                take();
                jam = number(9);
            }
            if (peek().equals("habit")) {
                take();
                habit = number(9);
            }
            houses.add(new Told(name, place, heads, jam, habit));
        }

        Law either(int depth) {
            Law law = both(depth);
            while (peek().equals("or")) {
                take();
                law = joined(law, both(depth), (a, b) -> a != 0 || b != 0 ? 1 : 0);
            }
            return law;
        }

        Law both(int depth) {
            Law law = one(depth);
            while (peek().equals("and")) {
                take();
                law = joined(law, one(depth), (a, b) -> a != 0 && b != 0 ? 1 : 0);
            }
            return law;
        }

        Law one(int depth) {
            if (peek().equals("not")) {
                if (depth == 7) {
                    cannot();
                }
                take();
                Law law = one(depth + 1);
                return v -> law.of(v) == 0 ? 1 : 0;
            }
            Law left = sum(depth);
            switch (peek()) {
                case "<":
                    take();
                    return joined(left, sum(depth), (a, b) -> a < b ? 1 : 0);
                case ">":
                    take();
                    return joined(left, sum(depth), (a, b) -> a > b ? 1 : 0);
                case "=":
                    take();
                    return joined(left, sum(depth), (a, b) -> a == b ? 1 : 0);
                default:
                    return left;
            }
        }

        Law sum(int depth) {
            Law law = term(depth);
            while (peek().equals("+") || peek().equals("-")) {
                boolean plus = take().equals("+");
                law = joined(law, term(depth), (a, b) -> plus ? a + b : a - b);
            }
            return law;
        }

        Law term(int depth) {
            Law law = unit(depth);
            while (peek().equals("*") || peek().equals("/") || peek().equals("%")) {
                String op = take();
                law = joined(law, unit(depth), (a, b) -> {
                    if (op.equals("*")) {
                        return a * b;
                    }
                    if (b == 0) {
                        return 0;
                    }
                    return op.equals("/") ? (int) ((long) a / b) : (int) ((long) a % b);
                });
            }
            return law;
        }

        Law unit(int depth) {
            String t = peek();
            boolean value = Set.of("heads", "hidden", "jam", "habit", "stones", "year").contains(t);
            boolean num = t.matches("[0-9]+");
            if (!value && !num && !t.equals("(")) {
                cannot();
            }
            if (unitsHere == 30 || t.equals("(") && depth == 7) {
                cannot();
            }
            unitsHere++;
            units++;
            take();
            if (value) {
                return v -> v.getOrDefault(t, 0);
            }
            if (num) {
                int n = Integer.parseInt(t);
                return v -> n;
            }
            Law law = either(depth + 1);
            take(")");
            return law;
        }

        static Law joined(Law a, Law b, IntBinaryOperator op) {
            return v -> op.applyAsInt(a.of(v), b.of(v));
        }
    }

    int feed(int... five) {
        if (tape.length() + 20 > 1600) {
            return NONE;
        }
        for (int n : five) {
            for (int b = 3; b >= 0; b--) {
                tape.append((char) ((n >>> 8 * b) & 255));
            }
        }
        return tape.length();
    }

    int end(int n) {
        if (n < 0 || n > tape.length()) {
            return NONE;
        }
        tape.setLength(n);
        return n;
    }

    int province() {
        String text = tape.toString();
        tape.setLength(0);
        Parser p = new Parser(text);
        try {
            p.all();
        } catch (Fault f) {
            fault = f.what;
            faultPlace = f.place;
            return NONE;
        }
        fault = 0;
        faultPlace = NONE;
        houses = p.houses;
        spit = p.laws.get("spit");
        tax = p.laws.get("tax");
        grow = p.laws.get("grow");
        units = p.units;
        now = new State();
        for (int h = 0; h < houses.size(); h++) {
            now.heads[h] = houses.get(h).heads();
        }
        now.seed = p.draw == null ? 0 : p.draw;
        done.clear();
        undone.clear();
        lying.clear();
        reports.clear();
        boxes = new State[3];
        return houses.size();
    }

    int fault(int what) {
        return what == 0 ? fault : what == 1 ? faultPlace : NONE;
    }

    // ---- houses

    int n() {
        return houses.size();
    }

    boolean no(int house) {
        return house < 0 || house >= n();
    }

    static int clamp(int v, int lo, int hi) {
        return v < lo ? lo : v > hi ? hi : v;
    }

    int stones(State s, int h, int hidden) {
        Told t = houses.get(h);
        int v = spit == null ? s.heads[h] - hidden + t.habit()
            : spit.of(Map.of("heads", s.heads[h], "hidden", hidden, "jam", t.jam(), "habit", t.habit(), "year", s.year));
        return clamp(v, 0, 99);
    }

    int taxOf(int stones, int h, int year) {
        int v = tax == null ? stones : tax.of(Map.of("stones", stones, "jam", houses.get(h).jam(), "year", year));
        return clamp(v, 0, 999);
    }

    int house(int h, int what) {
        if (no(h)) {
            return NONE;
        }
        int st = stones(now, h, now.hidden[h]);
        int[] all = {houses.get(h).place(), now.heads[h], now.hidden[h], now.bowl[h], houses.get(h).jam(),
            houses.get(h).habit(), st, st < houses.get(h).jam() ? 1 : 0, taxOf(now.bowl[h], h, now.year),
            taxOf(st, h, now.year)};
        return what < 0 || what > 9 ? NONE : all[what];
    }

    int sum(int what) {
        if (what < 0 || what > 5) {
            return NONE;
        }
        int w = new int[] {1, 2, 3, 6, 8, 9}[what];
        int s = 0;
        for (int h = 0; h < n(); h++) {
            s += house(h, w);
        }
        return s;
    }

    // ---- acts

    void act() {
        done.push(now.copy());
        if (done.size() > 40) {
            done.removeLast();
        }
        undone.clear();
    }

    int comes(int h) {
        if (no(h) || now.heads[h] == 7) {
            return NONE;
        }
        act();
        return ++now.heads[h];
    }

    int goes(int h) {
        if (no(h) || now.heads[h] == 0) {
            return NONE;
        }
        act();
        now.heads[h]--;
        now.hidden[h] = Math.min(now.hidden[h], now.heads[h]);
        return now.heads[h];
    }

    int moves(int a, int b) {
        if (no(a) || no(b) || a == b || now.heads[a] == 0 || now.heads[b] == 7) {
            return NONE;
        }
        act();
        now.heads[a]--;
        now.hidden[a] = Math.min(now.hidden[a], now.heads[a]);
        return ++now.heads[b];
    }

    int hide(int h, int k) {
        if (no(h) || k < 0 || k > now.heads[h]) {
            return NONE;
        }
        act();
        int were = now.hidden[h];
        now.hidden[h] = k;
        return were;
    }

    int steal(int h, int k) {
        if (no(h) || k < 1 || k > 99 || k > now.bowl[h]) {
            return NONE;
        }
        act();
        now.bowl[h] -= k;
        return now.bowl[h];
    }

    void pass(State s) {
        for (int h = 0; h < n(); h++) {
            s.bowl[h] = stones(s, h, s.hidden[h]);
        }
        s.seed = (137 * s.seed + 71) % 1000;
        if (n() > 0) {
            int h = s.seed % n();
            s.bowl[h] = Math.max(0, s.bowl[h] - (s.seed / 100) % 3);
        }
        for (int h = 0; h < n(); h++) {
            Told t = houses.get(h);
            int more = grow == null ? 0 : grow.of(Map.of("heads", s.heads[h], "hidden", s.hidden[h], "jam", t.jam(),
                "habit", t.habit(), "stones", s.bowl[h], "year", s.year));
            s.heads[h] = clamp(s.heads[h] + clamp(more, -3, 3), 0, 7);
            s.hidden[h] = Math.min(s.hidden[h], s.heads[h]);
        }
        s.year++;
    }

    int summer() {
        if (now.year == 999) {
            return NONE;
        }
        act();
        pass(now);
        return Arrays.stream(now.bowl).sum();
    }

    boolean undo() {
        if (done.isEmpty()) {
            return false;
        }
        undone.push(now);
        now = done.pop();
        return true;
    }

    boolean redo() {
        if (undone.isEmpty()) {
            return false;
        }
        done.push(now);
        now = undone.pop();
        return true;
    }

    // ---- by what is now

    int falses() {
        int b = 0;
        for (int h = 0; h < n(); h++) {
            if (now.bowl[h] != now.heads[h]) {
                b += 1 << h;
            }
        }
        return b;
    }

    State after(int k) {
        State s = now.copy();
        for (int i = 0; i < k; i++) {
            pass(s);
        }
        return s;
    }

    int will(int h, int k) {
        return no(h) || k < 0 || k > 60 ? NONE : after(k).heads[h];
    }

    int bowls(int k) {
        return k < 0 || k > 60 ? NONE : Arrays.stream(after(k).bowl).sum();
    }

    /** All rows with 0 .. most[h] in each place, in their order. */
    static List<int[]> rows(int[] most) {
        List<int[]> all = new ArrayList<>();
        int[] row = new int[most.length];
        while (true) {
            all.add(row.clone());
            int i = most.length - 1;
            while (i >= 0 && row[i] == most[i]) {
                row[i--] = 0;
            }
            if (i < 0) {
                return all;
            }
            row[i]++;
        }
    }

    int taxByRow(int[] row) {
        int all = 0;
        for (int h = 0; h < n(); h++) {
            int st = stones(now, h, row[h]);
            if (st < houses.get(h).jam()) {
                return NONE;
            }
            all += taxOf(st, h, now.year);
        }
        return all;
    }

    int leave(int t) {
        lying.clear();
        if (t < 0 || t > 9999) {
            return NONE;
        }
        int[] best = null;
        for (int[] row : rows(Arrays.copyOf(now.heads, n()))) {
            int all = taxByRow(row);
            if (all != NONE && all <= t && (best == null || Arrays.stream(row).sum() < Arrays.stream(best).sum())) {
                best = row;
            }
        }
        if (best == null) {
            return NONE;
        }
        lay(best);
        return Arrays.stream(best).sum();
    }

    void lay(int[] numbers) {
        lying.clear();
        for (int k : numbers) {
            lying.add(k);
        }
    }

    int least() {
        int best = NONE;
        for (int[] row : rows(Arrays.copyOf(now.heads, n()))) {
            int all = taxByRow(row);
            if (all != NONE && (best == NONE || all < best)) {
                best = all;
            }
        }
        return best;
    }

    int busy(int[] who, int counter) {
        int far = 0;
        int st = 0;
        for (int h = 0; h < n(); h++) {
            if (who[h] == counter) {
                far = Math.max(far, houses.get(h).place());
                st += now.bowl[h];
            }
        }
        return far + st;
    }

    int latest(int[] who) {
        int late = 0;
        for (int c = 0; c < n(); c++) {
            late = Math.max(late, busy(who, c));
        }
        return late;
    }

    List<int[]> plans() {
        int[] most = new int[n()];
        Arrays.fill(most, Math.max(0, n() - 1));
        List<int[]> good = new ArrayList<>();
        for (int[] row : rows(most)) {
            int next = 0;
            boolean ok = true;
            for (int c : row) {
                ok &= c <= next;
                next = Math.max(next, c + 1);
            }
            if (ok) {
                good.add(row);
            }
        }
        return good;
    }

    static int used(int[] who) {
        return Arrays.stream(who).max().orElse(-1) + 1;
    }

    int rounds(int noon) {
        lying.clear();
        if (noon < 0 || noon > 999) {
            return NONE;
        }
        int[] best = null;
        for (int[] who : plans()) {
            if (latest(who) <= noon && (best == null || used(who) < used(best))) {
                best = who;
            }
        }
        if (best == null) {
            return NONE;
        }
        lay(best);
        return used(best);
    }

    int noon(int k) {
        if (k < 1 || k > 5 || n() == 0) {
            return NONE;
        }
        return plans().stream().filter(who -> used(who) <= k).mapToInt(this::latest).min().getAsInt();
    }

    int missed(int sum) {
        int b = 0;
        for (int h = 0; h < n(); h++) {
            int s = 0;
            for (int o = 0; o < n(); o++) {
                s += o == h ? 0 : now.bowl[o];
            }
            b += s == sum ? 1 << h : 0;
        }
        return b;
    }

    int doubled(int sum) {
        int b = 0;
        for (int h = 0; h < n(); h++) {
            int s = now.bowl[h];
            for (int o = 0; o < n(); o++) {
                s += now.bowl[o];
            }
            b += s == sum ? 1 << h : 0;
        }
        return b;
    }

    static int[] share(int[] stones, int k, int law) {
        int[] seats = new int[stones.length];
        int all = Arrays.stream(stones).sum();
        if (all == 0) {
            return seats;
        }
        if (law == 0) {
            List<Integer> order = new ArrayList<>();
            int left = k;
            for (int h = 0; h < stones.length; h++) {
                seats[h] = stones[h] * k / all;
                left -= seats[h];
                order.add(h);
            }
            // A stable sort keeps the first of like ones first.
            order.sort((a, b) -> Integer.compare(stones[b] * k % all, stones[a] * k % all));
            for (int i = 0; i < left; i++) {
                seats[order.get(i)]++;
            }
        } else {
            for (int i = 0; i < k; i++) {
                int best = NONE;
                BigInteger common = BigInteger.ONE;
                for (int d = 1; d <= 21; d++) {
                    common = common.multiply(BigInteger.valueOf(d));
                }
                BigInteger most = BigInteger.valueOf(-1);
                for (int h = 0; h < stones.length; h++) {
                    BigInteger q = common.multiply(BigInteger.valueOf(stones[h])).divide(BigInteger.valueOf(seats[h] + 1));
                    if (q.compareTo(most) > 0) {
                        most = q;
                        best = h;
                    }
                }
                seats[best]++;
            }
        }
        return seats;
    }

    int[] bowlRow() {
        return Arrays.copyOf(now.bowl, n());
    }

    int seats(int h, int k, int law) {
        return no(h) || k < 1 || k > 20 || law < 0 || law > 1 ? NONE : share(bowlRow(), k, law)[h];
    }

    int stone(int k, int law) {
        if (k < 1 || k > 20 || law < 0 || law > 1) {
            return NONE;
        }
        int b = 0;
        for (int h = 0; h < n(); h++) {
            int[] more = bowlRow();
            more[h]++;
            if (!Arrays.equals(share(more, k, law), share(bowlRow(), k, law))) {
                b += 1 << h;
            }
        }
        return b;
    }

    int loss(int what) {
        for (int k = 2; k <= 20; k++) {
            for (int h = 0; h < n(); h++) {
                if (share(bowlRow(), k, 0)[h] < share(bowlRow(), k - 1, 0)[h]) {
                    return what == 0 ? k : what == 1 ? h : NONE;
                }
            }
        }
        return NONE;
    }

    int draft(int h, int k) {
        if (no(h) || k < 0 || k > 35 || k > sum(0)) {
            return NONE;
        }
        int[] left = now.heads.clone();
        for (int i = 0; i < k; i++) {
            int most = Arrays.stream(left).max().getAsInt();
            int from = 0;
            while (left[from] != most) {
                from++;
            }
            left[from]--;
        }
        return now.heads[h] - left[h];
    }

    /** By trying all rows of knocks, shorter ones first, in their order. */
    int chase() {
        lying.clear();
        if (n() == 0) {
            return NONE;
        }
        List<Integer> road = new ArrayList<>();
        for (int h = 0; h < n(); h++) {
            road.add(h);
        }
        road.sort((a, b) -> Integer.compare(houses.get(a).place(), houses.get(b).place()));
        for (int length = 1; length < 8; length++) {
            int[] most = new int[length];
            Arrays.fill(most, n() - 1);
            for (int[] knocks : rows(most)) {
                if (finds(road, knocks)) {
                    lay(knocks);
                    return length;
                }
            }
        }
        return NONE;
    }

    static boolean finds(List<Integer> road, int[] knocks) {
        Set<Integer> where = new HashSet<>(road);
        for (int k : knocks) {
            where.remove(k);
            Set<Integer> next = new HashSet<>();
            for (int h : where) {
                int at = road.indexOf(h);
                if (road.size() == 1) {
                    next.add(h);
                }
                if (at > 0) {
                    next.add(road.get(at - 1));
                }
                if (at + 1 < road.size()) {
                    next.add(road.get(at + 1));
                }
            }
            where = next;
        }
        return where.isEmpty();
    }

    static BigInteger choose(int a, int b) {
        if (b < 0 || b > a) {
            return BigInteger.ZERO;
        }
        BigInteger r = BigInteger.ONE;
        for (int i = 0; i < b; i++) {
            r = r.multiply(BigInteger.valueOf(a - i)).divide(BigInteger.valueOf(i + 1));
        }
        return r;
    }

    static int marks(int marked, int seen, int again) {
        if (marked < 0 || marked > 60 || seen < 0 || seen > 60 || again < 0 || again > marked || again > seen) {
            return NONE;
        }
        int best = NONE;
        BigInteger up = BigInteger.ZERO;
        BigInteger low = BigInteger.ONE;
        for (int all = Math.max(marked, seen); all <= 200; all++) {
            BigInteger u = choose(marked, again).multiply(choose(all - marked, seen - again));
            BigInteger l = choose(all, seen);
            if (u.multiply(low).compareTo(up.multiply(l)) > 0) {
                best = all;
                up = u;
                low = l;
            }
        }
        return best;
    }

    int lies(int i) {
        return i < 0 || i >= lying.size() ? NONE : lying.get(i);
    }

    // ---- reports

    int report(int set, int least, int most) {
        if (set < 1 || set >= 1 << n() || least < 0 || most > 35 || most < least || reports.size() == 30) {
            return NONE;
        }
        reports.add(new Report(set, least, most, time, new int[] {Integer.MAX_VALUE}));
        return reports.size() - 1;
    }

    boolean untell(int r) {
        if (r < 0 || r >= reports.size() || reports.get(r).untold()[0] != Integer.MAX_VALUE) {
            return false;
        }
        reports.get(r).untold()[0] = time;
        return true;
    }

    int later(int by) {
        if (by < 0 || by > 1000 || time + by > 100000) {
            return NONE;
        }
        return time += by;
    }

    List<Report> counting(int k) {
        List<Report> list = new ArrayList<>();
        for (Report r : reports) {
            boolean taken = r.untold()[0] != Integer.MAX_VALUE && r.untold()[0] <= k;
            if (r.told() <= k && !taken) {
                list.add(r);
            }
        }
        return list;
    }

    static int wrong(List<Report> list, int[] row) {
        int w = 0;
        for (Report r : list) {
            int s = 0;
            for (int h = 0; h < row.length; h++) {
                s += (r.set() >> h & 1) * row[h];
            }
            w += s < r.least() || s > r.most() ? 1 : 0;
        }
        return w;
    }

    List<int[]> everyRow() {
        int[] most = new int[n()];
        Arrays.fill(most, 7);
        return rows(most);
    }

    List<int[]> truthRows(int k) {
        List<Report> list = counting(k);
        List<int[]> good = new ArrayList<>();
        for (int[] row : everyRow()) {
            if (wrong(list, row) == 0) {
                good.add(row);
            }
        }
        return good;
    }

    int truths(int k) {
        return truthRows(k).size();
    }

    int range(int h, int what, int k) {
        if (no(h) || what < 0 || what > 1) {
            return NONE;
        }
        List<int[]> good = truthRows(k);
        if (good.isEmpty()) {
            return NONE;
        }
        return what == 0 ? good.stream().mapToInt(r -> r[h]).min().getAsInt()
            : good.stream().mapToInt(r -> r[h]).max().getAsInt();
    }

    int liars(int k) {
        List<Report> list = counting(k);
        int best = Integer.MAX_VALUE;
        for (int[] row : everyRow()) {
            int w = wrong(list, row);
            if (w < best) {
                best = w;
                lay(row);
            }
        }
        return best;
    }

    int knock(int what, int k) {
        List<int[]> good = truthRows(k);
        if (what < 0 || what > 1 || n() == 0 || good.isEmpty()) {
            return NONE;
        }
        int best = NONE;
        int bestLeft = Integer.MAX_VALUE;
        for (int h = 0; h < n(); h++) {
            int[] by = new int[8];
            for (int[] r : good) {
                by[r[h]]++;
            }
            int left = Arrays.stream(by).max().getAsInt();
            if (left < bestLeft) {
                bestLeft = left;
                best = h;
            }
        }
        return what == 0 ? best : bestLeft;
    }

    int tells(int what, int k) {
        List<int[]> good = truthRows(k);
        if (what < 0 || what > 1 || good.isEmpty()) {
            return NONE;
        }
        int best = (1 << n()) - 1;
        for (int set = 0; set < 1 << n(); set++) {
            if (Integer.bitCount(set) < Integer.bitCount(best)) {
                Set<Integer> seen = new HashSet<>();
                boolean apart = true;
                for (int[] r : good) {
                    int code = 0;
                    for (int h = 0; h < n(); h++) {
                        code = code * 8 + (set >> h & 1) * r[h];
                    }
                    if (!seen.add(code)) {
                        apart = false;
                        break;
                    }
                }
                if (apart) {
                    best = set;
                }
            }
        }
        return what == 0 ? Integer.bitCount(best) : best;
    }

    int odds(int h, int heads, int part, int k) {
        if (no(h) || heads < 0 || heads > 7 || part < 0 || part > 1) {
            return NONE;
        }
        List<int[]> good = truthRows(k);
        if (good.isEmpty()) {
            return NONE;
        }
        BigInteger up = BigInteger.valueOf(good.stream().filter(r -> r[h] == heads).count());
        BigInteger low = BigInteger.valueOf(good.size());
        return (part == 0 ? up : low).divide(up.gcd(low)).intValue();
    }

    // ---- images

    int image(int box) {
        if (box < 0 || box > 2) {
            return NONE;
        }
        boxes[box] = now.copy();
        return now.year;
    }

    int back(int box) {
        if (box < 0 || box > 2 || boxes[box] == null) {
            return NONE;
        }
        now = boxes[box].copy();
        done.clear();
        undone.clear();
        return now.year;
    }

    int about(int what) {
        int[] all = {n(), now.year, now.seed, done.size(), undone.size(), reports.size(), time, tape.length(), units,
            lying.size()};
        return what < 0 || what > 9 ? NONE : all[what];
    }
}
