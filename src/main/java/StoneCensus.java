import java.util.Arrays;

/** A province in which all are counted by the cherry stones in the bowl by the door. */
public final class StoneCensus {
    public static final int NONE = -1;

    private static final int MOST_BYTES = 1600;
    private static final int MOST_HOUSES = 5;
    private static final int MOST_HEADS = 7;
    private static final int MOST_TOGETHER = 35;
    private static final int MOST_PLACE = 60;
    private static final int MOST_STONES = 99;
    private static final int MOST_TAX = 999;
    private static final int MOST_TOLD_TAX = 9999;
    private static final int MOST_NOON = 999;
    private static final int MOST_DRAW = 999;
    private static final int MOST_JAM = 9;
    private static final int MOST_SUMMERS = 999;
    private static final int MOST_FORESEEN = 60;
    private static final int MOST_SEATS = 20;
    private static final int MOST_SEEN = 60;
    private static final int MOST_PEOPLE = 200;
    private static final int MOST_REPORTS = 30;
    private static final int MOST_LATER = 1000;
    private static final int MOST_TIME = 100000;
    private static final int MOST_KEPT = 40;
    private static final int MOST_LYING = 8;
    private static final int BOXES = 3;

    /** Above every tax, time and number of knocks that can be. */
    private static final int FAR = 1000000;

    // What changes is one row of numbers, so that it is kept, undone and tried out by copying it.
    private static final int HEADS = 0;
    private static final int HIDDEN = 5;
    private static final int BOWL = 10;
    private static final int YEAR = 15;
    private static final int SEED = 16;
    private static final int ROW = 17;

    private static final int FAULT_TOKEN = 1;
    private static final int FAULT_PLACE = 2;
    private static final int FAULT_NAME = 3;
    private static final int FAULT_NUMBER = 4;

    private static final int LAW_UNITS = 30;
    private static final int LAW_DEPTH = 6;

    /** 30 units, 29 operators between them, and at most 7 times not before each unit: 269. */
    private static final int LAW_CODE = 280;

    // A law's code holds numbers as they are, what is asked of a house, and operators, each above the last.
    private static final int CODE_VALUE = 10000;
    private static final int CODE_OPERATOR = 20000;
    private static final int VALUES = 6;

    private final Reader reader;
    private Sheet sheet;
    private Sheet spare;
    private final int[] now;
    private final int[] trial;
    private final History history;
    private final Hiding hiding;
    private final Road road;
    private final Seating seating;
    private final Reports reports;
    private final Truths known;
    private final Liars accused;
    private final int[] lying;
    private int lyingCount;
    private int time;

    public StoneCensus() {
        reader = new Reader();
        sheet = new Sheet();
        spare = new Sheet();
        now = new int[ROW];
        trial = new int[ROW];
        history = new History();
        hiding = new Hiding();
        road = new Road();
        seating = new Seating();
        reports = new Reports();
        known = new Truths();
        accused = new Liars();
        lying = new int[MOST_LYING];
    }

    public int feed(int a, int b, int c, int d, int e) {
        if (reader.length > MOST_BYTES - 20) {
            return NONE;
        }
        reader.append(a);
        reader.append(b);
        reader.append(c);
        reader.append(d);
        reader.append(e);
        return reader.length;
    }

    public int end(int n) {
        if (n < 0 || n > reader.length) {
            return NONE;
        }
        reader.length = n;
        return n;
    }

    public int province() {
        boolean read = reader.readAll(spare);
        reader.length = 0;
        if (!read) {
            return NONE;
        }
        Sheet old = sheet;
        sheet = spare;
        spare = old;
        sheet.begin(now);
        history.startFrom(now);
        history.emptyBoxes();
        reports.count = 0;
        known.forget();
        accused.forget();
        lyingCount = 0;
        return sheet.count;
    }

    public int fault(int what) {
        switch (what) {
            case 0: return reader.fault;
            case 1: return reader.fault == 0 ? NONE : reader.faultPlace;
            default: return NONE;
        }
    }

    public int house(int house, int what) {
        if (!isHouse(house)) {
            return NONE;
        }
        switch (what) {
            case 0: return sheet.places[house];
            case 1: return now[HEADS + house];
            case 2: return now[HIDDEN + house];
            case 3: return now[BOWL + house];
            case 4: return sheet.jams[house];
            case 5: return sheet.habits[house];
            case 6: return sheet.stonesOf(now, house);
            case 7: return sheet.stonesOf(now, house) < sheet.jams[house] ? 1 : 0;
            case 8: return sheet.taxOf(now[BOWL + house], house, now[YEAR]);
            case 9: return sheet.taxOf(sheet.stonesOf(now, house), house, now[YEAR]);
            default: return NONE;
        }
    }

    public int sum(int what) {
        switch (what) {
            case 0: return sumOf(1);
            case 1: return sumOf(2);
            case 2: return sumOf(3);
            case 3: return sumOf(6);
            case 4: return sumOf(8);
            case 5: return sumOf(9);
            default: return NONE;
        }
    }

    public int comes(int house) {
        if (!isHouse(house) || now[HEADS + house] >= MOST_HEADS) {
            return NONE;
        }
        now[HEADS + house]++;
        history.keep(now);
        return now[HEADS + house];
    }

    public int goes(int house) {
        if (!isHouse(house) || now[HEADS + house] <= 0) {
            return NONE;
        }
        leaveOne(house);
        history.keep(now);
        return now[HEADS + house];
    }

    public int moves(int from, int to) {
        if (!isHouse(from) || !isHouse(to) || from == to) {
            return NONE;
        }
        if (now[HEADS + from] <= 0 || now[HEADS + to] >= MOST_HEADS) {
            return NONE;
        }
        leaveOne(from);
        now[HEADS + to]++;
        history.keep(now);
        return now[HEADS + to];
    }

    public int hide(int house, int n) {
        if (!isHouse(house) || n < 0 || n > now[HEADS + house]) {
            return NONE;
        }
        int were = now[HIDDEN + house];
        now[HIDDEN + house] = n;
        history.keep(now);
        return were;
    }

    public int steal(int house, int n) {
        if (!isHouse(house) || n < 1 || n > MOST_STONES || n > now[BOWL + house]) {
            return NONE;
        }
        now[BOWL + house] -= n;
        history.keep(now);
        return now[BOWL + house];
    }

    public int summer() {
        if (now[YEAR] >= MOST_SUMMERS) {
            return NONE;
        }
        sheet.passSummer(now);
        history.keep(now);
        return allBowls(now);
    }

    public boolean undo() {
        return history.stepBack(now);
    }

    public boolean redo() {
        return history.stepOn(now);
    }

    public int falses() {
        int bits = 0;
        for (int house = 0; house < sheet.count; house++) {
            if (now[BOWL + house] != now[HEADS + house]) {
                bits |= 1 << house;
            }
        }
        return bits;
    }

    public int will(int house, int n) {
        if (!isHouse(house) || !isWithin(n, 0, MOST_FORESEEN)) {
            return NONE;
        }
        foresee(n);
        return trial[HEADS + house];
    }

    public int bowls(int n) {
        if (!isWithin(n, 0, MOST_FORESEEN)) {
            return NONE;
        }
        foresee(n);
        return allBowls(trial);
    }

    public int leave(int tax) {
        lyingCount = 0;
        if (!isWithin(tax, 0, MOST_TOLD_TAX)) {
            return NONE;
        }
        hiding.look(sheet, now);
        int fewest = hiding.choose(tax);
        if (fewest != NONE) {
            lay(hiding.chosen, sheet.count);
        }
        return fewest;
    }

    public int least() {
        hiding.look(sheet, now);
        return hiding.leastTax();
    }

    public int rounds(int noon) {
        lyingCount = 0;
        if (!isWithin(noon, 0, MOST_NOON)) {
            return NONE;
        }
        road.look(sheet, now);
        int fewest = road.fewestBy(noon);
        if (fewest != NONE) {
            lay(road.who, sheet.count);
        }
        return fewest;
    }

    public int noon(int n) {
        if (!isWithin(n, 1, MOST_HOUSES) || sheet.count == 0) {
            return NONE;
        }
        road.look(sheet, now);
        return road.firstNoon(n);
    }

    public int missed(int sum) {
        int all = allBowls(now);
        int bits = 0;
        for (int house = 0; house < sheet.count; house++) {
            if (all - now[BOWL + house] == sum) {
                bits |= 1 << house;
            }
        }
        return bits;
    }

    public int doubled(int sum) {
        int all = allBowls(now);
        int bits = 0;
        for (int house = 0; house < sheet.count; house++) {
            if (all + now[BOWL + house] == sum) {
                bits |= 1 << house;
            }
        }
        return bits;
    }

    public int seats(int house, int n, int law) {
        if (!isHouse(house) || !isWithin(n, 1, MOST_SEATS) || !isWithin(law, 0, 1)) {
            return NONE;
        }
        seating.look(now, sheet.count);
        seating.share(n, law);
        return seating.given[house];
    }

    public int stone(int n, int law) {
        if (!isWithin(n, 1, MOST_SEATS) || !isWithin(law, 0, 1)) {
            return NONE;
        }
        seating.look(now, sheet.count);
        return seating.changedByOne(n, law);
    }

    public int loss(int what) {
        if (!isWithin(what, 0, 1)) {
            return NONE;
        }
        seating.look(now, sheet.count);
        for (int n = 2; n <= MOST_SEATS; n++) {
            int loser = seating.firstLoser(n);
            if (loser != NONE) {
                return what == 0 ? n : loser;
            }
        }
        return NONE;
    }

    public int draft(int house, int n) {
        if (!isHouse(house) || !isWithin(n, 0, MOST_TOGETHER) || n > sum(0)) {
            return NONE;
        }
        System.arraycopy(now, 0, trial, 0, ROW);
        for (int i = 0; i < n; i++) {
            trial[HEADS + fullest(trial)]--;
        }
        return now[HEADS + house] - trial[HEADS + house];
    }

    public int chase() {
        lyingCount = 0;
        if (sheet.count == 0) {
            return NONE;
        }
        road.look(sheet, now);
        int fewest = road.planKnocks();
        lay(road.knocks, fewest);
        return fewest;
    }

    public int marks(int marked, int seen, int again) {
        if (!isWithin(marked, 0, MOST_SEEN) || !isWithin(seen, 0, MOST_SEEN)) {
            return NONE;
        }
        if (again < 0 || again > marked || again > seen) {
            return NONE;
        }
        int fewest = marked + seen - again;
        // One more is likelier just as long as (the number with it) * again is below marked * seen.
        int grown = fewest;
        for (int n = fewest + 1; n <= MOST_PEOPLE && n * again < marked * seen; n++) {
            grown = n;
        }
        return grown;
    }

    public int lies(int i) {
        return i >= 0 && i < lyingCount ? lying[i] : NONE;
    }

    public int report(int set, int least, int most) {
        if (!isWithin(set, 1, (1 << sheet.count) - 1)) {
            return NONE;
        }
        if (!isWithin(least, 0, MOST_TOGETHER) || !isWithin(most, least, MOST_TOGETHER)) {
            return NONE;
        }
        return reports.add(set, least, most, time);
    }

    public boolean untell(int report) {
        return reports.takeBack(report, time);
    }

    public int later(int by) {
        if (!isWithin(by, 0, MOST_LATER) || time + by > MOST_TIME) {
            return NONE;
        }
        time += by;
        return time;
    }

    public int truths(int k) {
        learn(k);
        return known.total;
    }

    public int range(int house, int what, int k) {
        if (!isHouse(house) || !isWithin(what, 0, 1)) {
            return NONE;
        }
        learn(k);
        return what == 0 ? known.fewestIn(house) : known.mostIn(house);
    }

    public int liars(int k) {
        accused.learn(reports, reports.countingAt(k), sheet.count);
        lay(accused.row, sheet.count);
        return accused.fewest;
    }

    public int knock(int what, int k) {
        if (!isWithin(what, 0, 1) || sheet.count == 0) {
            return NONE;
        }
        learn(k);
        if (known.total == 0) {
            return NONE;
        }
        int house = known.bestToSee();
        return what == 0 ? house : known.leftBySeeing(house);
    }

    public int tells(int what, int k) {
        if (!isWithin(what, 0, 1)) {
            return NONE;
        }
        learn(k);
        if (known.total == 0) {
            return NONE;
        }
        int set = known.tellingSet();
        return what == 0 ? Integer.bitCount(set) : set;
    }

    public int odds(int house, int heads, int part, int k) {
        if (!isHouse(house) || !isWithin(heads, 0, MOST_HEADS) || !isWithin(part, 0, 1)) {
            return NONE;
        }
        learn(k);
        int common = commonDivisor(known.total, known.tally[house][heads]);
        if (common == 0) {
            return NONE;
        }
        return (part == 0 ? known.tally[house][heads] : known.total) / common;
    }

    public int image(int box) {
        if (!isWithin(box, 0, BOXES - 1)) {
            return NONE;
        }
        history.fillBox(box, now);
        return now[YEAR];
    }

    public int back(int box) {
        if (!isWithin(box, 0, BOXES - 1) || !history.filled[box]) {
            return NONE;
        }
        history.openBox(box, now);
        history.startFrom(now);
        return now[YEAR];
    }

    public int about(int what) {
        switch (what) {
            case 0: return sheet.count;
            case 1: return now[YEAR];
            case 2: return now[SEED];
            case 3: return history.behind;
            case 4: return history.ahead;
            case 5: return reports.count;
            case 6: return time;
            case 7: return reader.length;
            case 8: return sheet.unitsOfLaws();
            case 9: return lyingCount;
            default: return NONE;
        }
    }

    private boolean isHouse(int house) {
        return house >= 0 && house < sheet.count;
    }

    private static boolean isWithin(int number, int least, int most) {
        return number >= least && number <= most;
    }

    private static int limited(int number, int least, int most) {
        return Math.max(least, Math.min(most, number));
    }

    private int sumOf(int what) {
        int all = 0;
        for (int house = 0; house < sheet.count; house++) {
            all += house(house, what);
        }
        return all;
    }

    private int allBowls(int[] row) {
        int all = 0;
        for (int house = 0; house < sheet.count; house++) {
            all += row[BOWL + house];
        }
        return all;
    }

    private int fullest(int[] row) {
        int best = 0;
        for (int house = 1; house < sheet.count; house++) {
            if (row[HEADS + house] > row[HEADS + best]) {
                best = house;
            }
        }
        return best;
    }

    private void leaveOne(int house) {
        now[HEADS + house]--;
        now[HIDDEN + house] = Math.min(now[HIDDEN + house], now[HEADS + house]);
    }

    private void foresee(int summers) {
        System.arraycopy(now, 0, trial, 0, ROW);
        for (int i = 0; i < summers; i++) {
            sheet.passSummer(trial);
        }
    }

    private void lay(int[] numbers, int count) {
        lyingCount = Math.min(count, Math.min(numbers.length, MOST_LYING));
        System.arraycopy(numbers, 0, lying, 0, lyingCount);
    }

    private void learn(int k) {
        known.learn(reports, reports.countingAt(k), sheet.count);
    }

    private static int commonDivisor(int a, int b) {
        int great = a;
        int small = b;
        // Euclid's steps for numbers up to 32,768 are far fewer.
        for (int i = 0; i < 64 && small != 0; i++) {
            int rest = great % small;
            great = small;
            small = rest;
        }
        return great;
    }

    /** One law in postfix order, so that working it out needs no recursion. */
    private static final class Formula {
        final int[] code = new int[LAW_CODE];
        final int[] stack = new int[LAW_UNITS];
        int length;
        int units;
        boolean told;

        void clear() {
            length = 0;
            units = 0;
            told = false;
        }

        void add(int piece) {
            if (length < LAW_CODE) {
                code[length] = piece;
                length++;
            }
        }

        int work(int[] values) {
            int top = 0;
            for (int i = 0; i < length; i++) {
                int piece = code[i];
                if (piece < CODE_OPERATOR) {
                    if (top < LAW_UNITS) {
                        stack[top] = leaf(piece, values);
                        top++;
                    }
                } else if (piece == CODE_OPERATOR + '!') {
                    if (top > 0) {
                        stack[top - 1] = stack[top - 1] == 0 ? 1 : 0;
                    }
                } else if (top > 1) {
                    top--;
                    stack[top - 1] = join(piece - CODE_OPERATOR, stack[top - 1], stack[top]);
                }
            }
            return top > 0 ? stack[top - 1] : 0;
        }

        private static int leaf(int piece, int[] values) {
            int which = piece - CODE_VALUE;
            if (which < 0) {
                return piece;
            }
            return which < values.length ? values[which] : 0;
        }

        private static int join(int sign, int left, int right) {
            switch (sign) {
                case '+': return left + right;
                case '-': return left - right;
                case '*': return left * right;
                case '/': return right == 0 ? 0 : left / right;
                case '%': return right == 0 ? 0 : left % right;
                case '<': return left < right ? 1 : 0;
                case '>': return left > right ? 1 : 0;
                case '=': return left == right ? 1 : 0;
                case '&': return left != 0 && right != 0 ? 1 : 0;
                default: return left != 0 || right != 0 ? 1 : 0;
            }
        }
    }

    /** What a text told: the houses and the laws, and what these make of a row. */
    private static final class Sheet {
        final long[] names = new long[MOST_HOUSES];
        final int[] places = new int[MOST_HOUSES];
        final int[] heads = new int[MOST_HOUSES];
        final int[] jams = new int[MOST_HOUSES];
        final int[] habits = new int[MOST_HOUSES];
        final Formula spit = new Formula();
        final Formula tax = new Formula();
        final Formula grow = new Formula();
        final int[] values = new int[VALUES];
        int count;
        int draw;
        boolean drawTold;

        void clear() {
            count = 0;
            draw = 0;
            drawTold = false;
            spit.clear();
            tax.clear();
            grow.clear();
        }

        boolean hasName(long name) {
            for (int house = 0; house < count; house++) {
                if (names[house] == name) {
                    return true;
                }
            }
            return false;
        }

        void addHouse(long name, int place, int people, int jam, int habit) {
            if (count < MOST_HOUSES) {
                names[count] = name;
                places[count] = place;
                heads[count] = people;
                jams[count] = jam;
                habits[count] = habit;
                count++;
            }
        }

        int unitsOfLaws() {
            return spit.units + tax.units + grow.units;
        }

        void begin(int[] row) {
            Arrays.fill(row, 0);
            System.arraycopy(heads, 0, row, HEADS, count);
            row[SEED] = draw;
        }

        int stonesOf(int[] row, int house) {
            return stonesHiding(row, house, row[HIDDEN + house]);
        }

        int stonesHiding(int[] row, int house, int hidden) {
            int people = row[HEADS + house];
            if (!spit.told) {
                return limited(people - hidden + habits[house], 0, MOST_STONES);
            }
            setValues(people, hidden, jams[house], habits[house], 0, row[YEAR]);
            return limited(spit.work(values), 0, MOST_STONES);
        }

        int taxOf(int stones, int house, int year) {
            if (!tax.told) {
                return limited(stones, 0, MOST_TAX);
            }
            setValues(0, 0, jams[house], 0, stones, year);
            return limited(tax.work(values), 0, MOST_TAX);
        }

        void passSummer(int[] row) {
            for (int house = 0; house < count; house++) {
                row[BOWL + house] = stonesOf(row, house);
            }
            row[SEED] = (row[SEED] * 137 + 71) % 1000;
            sendMagpie(row);
            if (grow.told) {
                for (int house = 0; house < count; house++) {
                    growHouse(row, house);
                }
            }
            row[YEAR]++;
        }

        private void sendMagpie(int[] row) {
            if (count > 0) {
                int bowl = BOWL + row[SEED] % count;
                row[bowl] -= Math.min(row[bowl], row[SEED] / 100 % 3);
            }
        }

        private void growHouse(int[] row, int house) {
            int people = row[HEADS + house];
            setValues(people, row[HIDDEN + house], jams[house], habits[house], row[BOWL + house], row[YEAR]);
            int more = limited(grow.work(values), -3, 3);
            row[HEADS + house] = limited(people + more, 0, MOST_HEADS);
            row[HIDDEN + house] = Math.min(row[HIDDEN + house], row[HEADS + house]);
        }

        /** In the order in which the reader numbers them. */
        private void setValues(int people, int hidden, int jam, int habit, int stones, int year) {
            values[0] = people;
            values[1] = hidden;
            values[2] = jam;
            values[3] = habit;
            values[4] = stones;
            values[5] = year;
        }
    }

    /** The tape, and the reading of it: the first fault by its place ends the reading. */
    private static final class Reader {
        static final int END = 0;
        static final int WORD = 1;
        static final int NUMBER = 2;
        static final int SIGN = 3;

        final byte[] bytes = new byte[MOST_BYTES];
        int length;
        int fault;
        int faultPlace;

        private int kind;
        private int start;
        private int at;
        private int number;
        private long name;
        private char sign;

        void append(int number) {
            for (int shift = 24; shift >= 0 && length < MOST_BYTES; shift -= 8) {
                bytes[length] = (byte) (number >> shift);
                length++;
            }
        }

        boolean readAll(Sheet sheet) {
            sheet.clear();
            fault = 0;
            at = 0;
            advance();
            for (int line = 0; line < MOST_BYTES && kind != END; line++) {
                if (isWord("house")) {
                    readHouse(sheet);
                } else if (isWord("draw")) {
                    readDraw(sheet);
                } else {
                    readLaw(lawNamed(sheet));
                }
                takeSign(';');
            }
            return fault == 0;
        }

        private Formula lawNamed(Sheet sheet) {
            if (isWord("spit")) {
                return sheet.spit;
            } else if (isWord("tax")) {
                return sheet.tax;
            }
            return isWord("grow") ? sheet.grow : null;
        }

        private void readHouse(Sheet sheet) {
            if (sheet.count >= MOST_HOUSES) {
                refuse(FAULT_PLACE);
            }
            advance();
            long called = takeName(sheet);
            int place = takeTold("at", MOST_PLACE);
            int people = takeTold("heads", MOST_HEADS);
            int jam = isWord("jam") ? takeTold("jam", MOST_JAM) : 0;
            int habit = isWord("habit") ? takeTold("habit", MOST_JAM) : 0;
            sheet.addHouse(called, place, people, jam, habit);
        }

        private void readDraw(Sheet sheet) {
            if (sheet.drawTold) {
                refuse(FAULT_PLACE);
            }
            sheet.drawTold = true;
            sheet.draw = takeTold("draw", MOST_DRAW);
        }

        private void readLaw(Formula law) {
            if (law == null || law.told) {
                refuse(FAULT_PLACE);
                return;
            }
            law.told = true;
            advance();
            readEither(law, 0);
        }

        private void readEither(Formula law, int depth) {
            readBoth(law, depth);
            for (int i = 0; i < MOST_BYTES && isWord("or"); i++) {
                advance();
                readBoth(law, depth);
                law.add(CODE_OPERATOR + '|');
            }
        }

        private void readBoth(Formula law, int depth) {
            readOne(law, depth);
            for (int i = 0; i < MOST_BYTES && isWord("and"); i++) {
                advance();
                readOne(law, depth);
                law.add(CODE_OPERATOR + '&');
            }
        }

        private void readOne(Formula law, int depth) {
            if (isWord("not")) {
                if (depth > LAW_DEPTH) {
                    refuse(FAULT_PLACE);
                    return;
                }
                advance();
                readOne(law, depth + 1);
                law.add(CODE_OPERATOR + '!');
                return;
            }
            readSum(law, depth);
            if (isSign('<') || isSign('>') || isSign('=')) {
                char relation = sign;
                advance();
                readSum(law, depth);
                law.add(CODE_OPERATOR + relation);
            }
        }

        private void readSum(Formula law, int depth) {
            readTerm(law, depth);
            for (int i = 0; i < MOST_BYTES && (isSign('+') || isSign('-')); i++) {
                char operator = sign;
                advance();
                readTerm(law, depth);
                law.add(CODE_OPERATOR + operator);
            }
        }

        private void readTerm(Formula law, int depth) {
            readUnit(law, depth);
            for (int i = 0; i < MOST_BYTES && (isSign('*') || isSign('/') || isSign('%')); i++) {
                char operator = sign;
                advance();
                readUnit(law, depth);
                law.add(CODE_OPERATOR + operator);
            }
        }

        private void readUnit(Formula law, int depth) {
            if (law.units >= LAW_UNITS) {
                refuse(FAULT_PLACE);
                return;
            }
            law.units++;
            int value = valueNamed();
            if (kind == NUMBER) {
                law.add(number);
                advance();
            } else if (value != NONE) {
                law.add(CODE_VALUE + value);
                advance();
            } else if (isSign('(') && depth <= LAW_DEPTH) {
                advance();
                readEither(law, depth + 1);
                takeSign(')');
            } else {
                refuse(FAULT_PLACE);
            }
        }

        private int valueNamed() {
            if (isWord("heads")) {
                return 0;
            } else if (isWord("hidden")) {
                return 1;
            } else if (isWord("jam")) {
                return 2;
            } else if (isWord("habit")) {
                return 3;
            } else if (isWord("stones")) {
                return 4;
            }
            return isWord("year") ? 5 : NONE;
        }

        private boolean standsForItself() {
            return isWord("house") || isWord("at") || isWord("heads") || isWord("jam") || isWord("habit")
                || isWord("spit") || isWord("tax") || isWord("grow") || isWord("draw") || isWord("or")
                || isWord("and") || isWord("not") || isWord("hidden") || isWord("stones") || isWord("year");
        }

        private long takeName(Sheet sheet) {
            long called = name;
            if (kind != WORD || standsForItself()) {
                refuse(FAULT_PLACE);
            } else if (sheet.hasName(called)) {
                refuse(FAULT_NAME);
            }
            advance();
            return called;
        }

        /** A word and the number behind it. */
        private int takeTold(String word, int most) {
            if (!isWord(word)) {
                refuse(FAULT_PLACE);
            }
            advance();
            int told = number;
            if (kind != NUMBER) {
                refuse(FAULT_PLACE);
            } else if (told > most) {
                refuse(FAULT_NUMBER);
            }
            advance();
            return told;
        }

        private void takeSign(char wanted) {
            if (!isSign(wanted)) {
                refuse(FAULT_PLACE);
            }
            advance();
        }

        private boolean isSign(char wanted) {
            return kind == SIGN && sign == wanted;
        }

        private boolean isWord(String text) {
            int size = text.length();
            if (kind != WORD || at - start != size) {
                return false;
            }
            for (int i = 0; i < size; i++) {
                if (bytes[start + i] != text.charAt(i)) {
                    return false;
                }
            }
            return true;
        }

        /** Behind a fault there is nothing more to read: all that waits for a token sees the end. */
        private void refuse(int what) {
            if (fault == 0) {
                fault = what;
                faultPlace = start;
            }
            kind = END;
        }

        private void advance() {
            if (fault != 0) {
                return;
            }
            while (at < length && (bytes[at] == 32 || bytes[at] == 10)) {
                at++;
            }
            start = at;
            if (at >= length) {
                kind = END;
            } else if (isLetterAt(at)) {
                scanWord();
            } else if (isDigitAt(at)) {
                scanNumber();
            } else {
                scanSign();
            }
        }

        private void scanWord() {
            kind = WORD;
            name = 0;
            while (at < length && isLetterAt(at)) {
                name = name * 32 + (bytes[at] - 'a' + 1);
                at++;
            }
            if (at - start > 8) {
                refuse(FAULT_TOKEN);
            }
        }

        private void scanNumber() {
            kind = NUMBER;
            number = 0;
            while (at < length && isDigitAt(at)) {
                number = number * 10 + (bytes[at] - '0');
                at++;
            }
            if (at - start > 4 || isLetterAt(at)) {
                refuse(FAULT_TOKEN);
            }
        }

        private void scanSign() {
            kind = SIGN;
            sign = (char) (bytes[at] & 255);
            at++;
            switch (sign) {
                case ';': case '(': case ')': case '<': case '>': case '=':
                case '+': case '-': case '*': case '/': case '%':
                    break;
                default:
                    refuse(FAULT_TOKEN);
            }
        }

        private boolean isLetterAt(int place) {
            return place < length && bytes[place] >= 'a' && bytes[place] <= 'z';
        }

        private boolean isDigitAt(int place) {
            return place < length && bytes[place] >= '0' && bytes[place] <= '9';
        }
    }

    /** The acts that are kept, as the rows between them, and the boxes with images. */
    private static final class History {
        final int[][] rows = new int[MOST_KEPT + 1][ROW];
        final int[][] boxes = new int[BOXES][ROW];
        final boolean[] filled = new boolean[BOXES];
        int oldest;
        int behind;
        int ahead;

        void startFrom(int[] row) {
            oldest = 0;
            behind = 0;
            ahead = 0;
            copyFrom(row);
        }

        /** An act has led to this row. */
        void keep(int[] row) {
            if (behind < MOST_KEPT) {
                behind++;
            } else {
                oldest = (oldest + 1) % (MOST_KEPT + 1);
            }
            ahead = 0;
            copyFrom(row);
        }

        boolean stepBack(int[] row) {
            if (behind <= 0) {
                return false;
            }
            behind--;
            ahead++;
            copyTo(row);
            return true;
        }

        boolean stepOn(int[] row) {
            if (ahead <= 0) {
                return false;
            }
            behind++;
            ahead--;
            copyTo(row);
            return true;
        }

        void emptyBoxes() {
            for (int box = 0; box < BOXES; box++) {
                filled[box] = false;
            }
        }

        void fillBox(int box, int[] row) {
            System.arraycopy(row, 0, boxes[box], 0, ROW);
            filled[box] = true;
        }

        void openBox(int box, int[] row) {
            System.arraycopy(boxes[box], 0, row, 0, ROW);
        }

        private void copyFrom(int[] row) {
            System.arraycopy(row, 0, rows[(oldest + behind) % (MOST_KEPT + 1)], 0, ROW);
        }

        private void copyTo(int[] row) {
            System.arraycopy(rows[(oldest + behind) % (MOST_KEPT + 1)], 0, row, 0, ROW);
        }
    }

    /** Whom to hide. */
    private static final class Hiding {
        /** By house and how many of it are hidden: the tax, or FAR if that shows or can't be. */
        final int[][] taxes = new int[MOST_HOUSES][MOST_HEADS + 1];
        /** By first house and how many are hidden from it on: the least tax of these houses, or FAR. */
        final int[][] cheapest = new int[MOST_HOUSES + 1][MOST_TOGETHER + 1];
        final int[] chosen = new int[MOST_HOUSES];
        int count;

        void look(Sheet sheet, int[] row) {
            count = sheet.count;
            for (int house = 0; house < count; house++) {
                for (int hidden = 0; hidden <= MOST_HEADS; hidden++) {
                    taxes[house][hidden] = hidden <= row[HEADS + house] ? taxHiding(sheet, row, house, hidden) : FAR;
                }
            }
        }

        private static int taxHiding(Sheet sheet, int[] row, int house, int hidden) {
            int stones = sheet.stonesHiding(row, house, hidden);
            return stones < sheet.jams[house] ? FAR : sheet.taxOf(stones, house, row[YEAR]);
        }

        int leastTax() {
            int all = 0;
            for (int house = 0; house < count; house++) {
                int best = FAR;
                for (int hidden = 0; hidden <= MOST_HEADS; hidden++) {
                    best = Math.min(best, taxes[house][hidden]);
                }
                if (best >= FAR) {
                    return NONE;
                }
                all += best;
            }
            return all;
        }

        int choose(int tax) {
            weighFromTheEnd();
            for (int all = 0; all <= MOST_TOGETHER; all++) {
                if (cheapest[0][all] <= tax) {
                    pickFirst(tax, all);
                    return all;
                }
            }
            return NONE;
        }

        private void weighFromTheEnd() {
            Arrays.fill(cheapest[count], FAR);
            cheapest[count][0] = 0;
            for (int house = count - 1; house >= 0; house--) {
                for (int all = 0; all <= MOST_TOGETHER; all++) {
                    cheapest[house][all] = cheapestFrom(house, all);
                }
            }
        }

        private int cheapestFrom(int house, int all) {
            int best = FAR;
            for (int hidden = 0; hidden <= MOST_HEADS && hidden <= all; hidden++) {
                best = Math.min(best, taxes[house][hidden] + cheapest[house + 1][all - hidden]);
            }
            return best;
        }

        private void pickFirst(int tax, int all) {
            int left = tax;
            int toHide = all;
            for (int house = 0; house < count; house++) {
                int hidden = firstThatFits(house, left, toHide);
                chosen[house] = hidden;
                left -= taxes[house][hidden];
                toHide -= hidden;
            }
        }

        private int firstThatFits(int house, int left, int toHide) {
            for (int hidden = 0; hidden < MOST_HEADS && hidden < toHide; hidden++) {
                if (taxes[house][hidden] + cheapest[house + 1][toHide - hidden] <= left) {
                    return hidden;
                }
            }
            return Math.min(MOST_HEADS, toHide);
        }
    }

    /** The houses by their places: who counts which bowls by noon, and where to knock for one who moves each night. */
    private static final class Road {
        final int[] places = new int[MOST_HOUSES];
        final int[] bowls = new int[MOST_HOUSES];
        /** By house: which counter. */
        final int[] who = new int[MOST_HOUSES];
        final int[] furthest = new int[MOST_HOUSES];
        final int[] counted = new int[MOST_HOUSES];
        /** By house: the houses next to it, as bits. */
        final int[] beside = new int[MOST_HOUSES];
        /** By the set of houses in which he may be: how many knocks find him. */
        final int[] steps = new int[1 << MOST_HOUSES];
        final int[] knocks = new int[MOST_LYING];
        int count;

        void look(Sheet sheet, int[] row) {
            count = sheet.count;
            System.arraycopy(sheet.places, 0, places, 0, count);
            System.arraycopy(row, BOWL, bowls, 0, count);
            Arrays.fill(furthest, 0);
            Arrays.fill(counted, 0);
        }

        int fewestBy(int noon) {
            if (count == 0) {
                return 0;
            }
            for (int n = 1; n <= count; n++) {
                if (sendFrom(0, 0, n, noon)) {
                    return n;
                }
            }
            return NONE;
        }

        int firstNoon(int n) {
            return soonestFrom(0, 0, n, 0);
        }

        /** Takes the first plan, each new counter by the least number; a counter's sums are put back behind it. */
        private boolean sendFrom(int house, int used, int most, int noon) {
            if (house >= count) {
                return true;
            }
            boolean fits = false;
            for (int counter = 0; counter <= used && counter < most && !fits; counter++) {
                int before = furthest[counter];
                if (busyWith(counter, house) <= noon) {
                    who[house] = counter;
                    fits = sendFrom(house + 1, Math.max(used, counter + 1), most, noon);
                }
                putBack(counter, house, before);
            }
            return fits;
        }

        private int soonestFrom(int house, int used, int most, int latest) {
            if (house >= count) {
                return latest;
            }
            int best = FAR;
            for (int counter = 0; counter <= used && counter < most; counter++) {
                int before = furthest[counter];
                int busy = Math.max(latest, busyWith(counter, house));
                best = Math.min(best, soonestFrom(house + 1, Math.max(used, counter + 1), most, busy));
                putBack(counter, house, before);
            }
            return best;
        }

        private int busyWith(int counter, int house) {
            furthest[counter] = Math.max(furthest[counter], places[house]);
            counted[counter] += bowls[house];
            return furthest[counter] + counted[counter];
        }

        private void putBack(int counter, int house, int before) {
            furthest[counter] = before;
            counted[counter] -= bowls[house];
        }

        int planKnocks() {
            findNeighbours();
            countSteps();
            int maybe = (1 << count) - 1;
            int used = 0;
            while (maybe != 0 && used < MOST_LYING) {
                int house = firstOnTheWay(maybe);
                knocks[used] = house;
                used++;
                maybe = afterKnock(maybe, house);
            }
            return used;
        }

        private void findNeighbours() {
            for (int house = 0; house < count; house++) {
                int below = NONE;
                int above = NONE;
                for (int other = 0; other < count; other++) {
                    if (isBefore(other, house) && (below == NONE || isBefore(below, other))) {
                        below = other;
                    }
                    if (isBefore(house, other) && (above == NONE || isBefore(other, above))) {
                        above = other;
                    }
                }
                beside[house] = bitOf(below) | bitOf(above);
                if (count == 1) {
                    beside[house] = bitOf(house);
                }
            }
        }

        private boolean isBefore(int one, int other) {
            int apart = places[one] - places[other];
            return apart < 0 || apart == 0 && one < other;
        }

        private static int bitOf(int house) {
            return house == NONE ? 0 : 1 << house;
        }

        /** How many knocks each set needs; each pass knows at least the sets that need one more. */
        private void countSteps() {
            Arrays.fill(steps, FAR);
            steps[0] = 0;
            boolean changed = true;
            for (int pass = 0; pass < 1 << MOST_HOUSES && changed; pass++) {
                changed = false;
                for (int set = 1; set < 1 << count; set++) {
                    int best = fewestFrom(set);
                    changed |= best < steps[set];
                    steps[set] = best;
                }
            }
        }

        private int fewestFrom(int set) {
            int best = steps[set];
            for (int house = 0; house < count; house++) {
                best = Math.min(best, steps[afterKnock(set, house)] + 1);
            }
            return best;
        }

        private int firstOnTheWay(int set) {
            for (int house = 0; house < count; house++) {
                if (steps[afterKnock(set, house)] < steps[set]) {
                    return house;
                }
            }
            return 0;
        }

        private int afterKnock(int set, int knocked) {
            int next = 0;
            for (int house = 0; house < count; house++) {
                if (house != knocked && (set >> house & 1) == 1) {
                    next |= beside[house];
                }
            }
            return next;
        }
    }

    /** Seats for bowls by two laws. */
    private static final class Seating {
        final int[] stones = new int[MOST_HOUSES];
        final int[] given = new int[MOST_HOUSES];
        final int[] rests = new int[MOST_HOUSES];
        final int[] other = new int[MOST_HOUSES];
        int count;

        void look(int[] row, int houses) {
            count = houses;
            System.arraycopy(row, BOWL, stones, 0, count);
        }

        void share(int n, int law) {
            int all = 0;
            for (int house = 0; house < count; house++) {
                all += stones[house];
                given[house] = 0;
            }
            if (all == 0) {
                return;
            }
            if (law == 0) {
                shareByRests(n, all);
            } else {
                shareOneByOne(n);
            }
        }

        int changedByOne(int n, int law) {
            share(n, law);
            System.arraycopy(given, 0, other, 0, count);
            int bits = 0;
            for (int house = 0; house < count; house++) {
                stones[house]++;
                share(n, law);
                stones[house]--;
                if (isChanged()) {
                    bits |= 1 << house;
                }
            }
            return bits;
        }

        /** Of the houses that have less by n seats than by one less. */
        int firstLoser(int n) {
            share(n - 1, 0);
            System.arraycopy(given, 0, other, 0, count);
            share(n, 0);
            for (int house = 0; house < count; house++) {
                if (given[house] < other[house]) {
                    return house;
                }
            }
            return NONE;
        }

        private boolean isChanged() {
            for (int house = 0; house < count; house++) {
                if (given[house] != other[house]) {
                    return true;
                }
            }
            return false;
        }

        private void shareByRests(int n, int all) {
            int left = n;
            for (int house = 0; house < count && all > 0; house++) {
                int share = stones[house] * n;
                given[house] = share / all;
                rests[house] = share % all;
                left -= given[house];
            }
            for (int i = 0; i < left && i < MOST_HOUSES; i++) {
                int best = greatestRest();
                given[best]++;
                rests[best] = NONE;
            }
        }

        private int greatestRest() {
            int best = 0;
            for (int house = 1; house < count; house++) {
                if (rests[house] > rests[best]) {
                    best = house;
                }
            }
            return best;
        }

        private void shareOneByOne(int n) {
            for (int i = 0; i < n; i++) {
                int best = 0;
                for (int house = 1; house < count; house++) {
                    if (stones[house] * (given[best] + 1) > stones[best] * (given[house] + 1)) {
                        best = house;
                    }
                }
                given[best]++;
            }
        }
    }

    /** What was told of houses together, and when. */
    private static final class Reports {
        final int[] sets = new int[MOST_REPORTS];
        final int[] leasts = new int[MOST_REPORTS];
        final int[] mosts = new int[MOST_REPORTS];
        final int[] toldAt = new int[MOST_REPORTS];
        final int[] untoldAt = new int[MOST_REPORTS];
        int count;

        int add(int set, int least, int most, int time) {
            if (count >= MOST_REPORTS) {
                return NONE;
            }
            sets[count] = set;
            leasts[count] = least;
            mosts[count] = most;
            toldAt[count] = time;
            untoldAt[count] = NONE;
            count++;
            return count - 1;
        }

        boolean takeBack(int report, int time) {
            if (report < 0 || report >= count || untoldAt[report] != NONE) {
                return false;
            }
            untoldAt[report] = time;
            return true;
        }

        /** As bits. */
        int countingAt(int k) {
            int bits = 0;
            for (int report = 0; report < count; report++) {
                boolean untold = untoldAt[report] != NONE && untoldAt[report] <= k;
                if (toldAt[report] <= k && !untold) {
                    bits |= 1 << report;
                }
            }
            return bits;
        }
    }

    /** While houses are gone through one by one: the heads of all sets of those before, and which sets are told of. */
    private static final class Sums {
        /** By set: its heads together. */
        final int[] heads = new int[1 << MOST_HOUSES];
        /** By the last house of a set that is told of: the others of it. */
        final int[][] rests = new int[MOST_HOUSES][1 << MOST_HOUSES - 1];
        final int[] restCounts = new int[MOST_HOUSES];

        /** Takes the sets that are told of, a bit each; answers the first house from which on none is the last of one. */
        int list(int told, int houses) {
            int firstFree = 0;
            for (int house = 0; house < houses; house++) {
                restCounts[house] = 0;
                for (int rest = 0; rest < 1 << house; rest++) {
                    if ((told >> (rest | 1 << house) & 1) == 1) {
                        rests[house][restCounts[house]] = rest;
                        restCounts[house]++;
                        firstFree = house + 1;
                    }
                }
            }
            return firstFree;
        }

        void setHeads(int house, int number) {
            for (int rest = 0; rest < 1 << house; rest++) {
                heads[rest | 1 << house] = heads[rest] + number;
            }
        }
    }

    /** The rows by which all reports that count are so; kept until others count. */
    private static final class Truths {
        static final int MOST_CODES = 4096;

        /** By house and heads: in how many truths it has them. */
        final int[][] tally = new int[MOST_HOUSES][MOST_HEADS + 1];
        final int[] lows = new int[1 << MOST_HOUSES];
        final int[] highs = new int[1 << MOST_HOUSES];
        final Sums sums = new Sums();
        final int[] codes = new int[MOST_CODES];
        final int[] stamps = new int[MOST_CODES];
        int codeCount;
        int stamp;
        int total;
        int houses;
        int mask;
        int telling;
        /** From this house on no house is the last of a set that is told of. */
        int firstFree;
        /** In how many ways the heads of the houses from there on can be. */
        int ways;
        boolean ready;

        void forget() {
            ready = false;
        }

        void learn(Reports reports, int counting, int count) {
            if (ready && mask == counting && houses == count) {
                return;
            }
            ready = true;
            mask = counting;
            houses = count;
            telling = NONE;
            firstFree = sums.list(takeReports(reports), houses);
            for (int house = 0; house < MOST_HOUSES; house++) {
                Arrays.fill(tally[house], 0);
            }
            ways = 1 << 3 * (houses - firstFree);
            total = firstFree == 0 ? ways : countFrom(0);
            for (int house = firstFree; house < houses; house++) {
                Arrays.fill(tally[house], total / 8);
            }
        }

        /** Answers the sets that are told of, a bit each. */
        private int takeReports(Reports reports) {
            int told = 0;
            Arrays.fill(lows, 0);
            Arrays.fill(highs, MOST_TOGETHER);
            for (int report = 0; report < reports.count; report++) {
                if ((mask >> report & 1) == 1) {
                    int set = reports.sets[report];
                    lows[set] = Math.max(lows[set], reports.leasts[report]);
                    highs[set] = Math.min(highs[set], reports.mosts[report]);
                    told |= 1 << set;
                }
            }
            return told;
        }

        /** With the sums of the houses before this one set. */
        private int countFrom(int house) {
            int all = 0;
            int[] tallied = tally[house];
            int high = highest(house);
            for (int heads = lowest(house); heads <= high; heads++) {
                int found = ways;
                if (house + 1 < firstFree) {
                    sums.setHeads(house, heads);
                    found = countFrom(house + 1);
                }
                tallied[heads] += found;
                all += found;
            }
            return all;
        }

        private int lowest(int house) {
            int low = 0;
            for (int i = 0; i < sums.restCounts[house]; i++) {
                int rest = sums.rests[house][i];
                low = Math.max(low, lows[rest | 1 << house] - sums.heads[rest]);
            }
            return low;
        }

        private int highest(int house) {
            int high = MOST_HEADS;
            for (int i = 0; i < sums.restCounts[house]; i++) {
                int rest = sums.rests[house][i];
                high = Math.min(high, highs[rest | 1 << house] - sums.heads[rest]);
            }
            return high;
        }

        int fewestIn(int house) {
            for (int heads = 0; heads <= MOST_HEADS; heads++) {
                if (tally[house][heads] > 0) {
                    return heads;
                }
            }
            return NONE;
        }

        int mostIn(int house) {
            for (int heads = MOST_HEADS; heads >= 0; heads--) {
                if (tally[house][heads] > 0) {
                    return heads;
                }
            }
            return NONE;
        }

        int leftBySeeing(int house) {
            int most = 0;
            for (int heads = 0; heads <= MOST_HEADS; heads++) {
                most = Math.max(most, tally[house][heads]);
            }
            return most;
        }

        int bestToSee() {
            int best = 0;
            for (int house = 1; house < houses; house++) {
                if (leftBySeeing(house) < leftBySeeing(best)) {
                    best = house;
                }
            }
            return best;
        }

        int tellingSet() {
            if (telling == NONE) {
                telling = findTelling();
            }
            return telling;
        }

        private int findTelling() {
            int all = (1 << houses) - 1;
            // More truths than rows of all houses but one: then none can be left out.
            if (houses == 0 || total > 1 << 3 * (houses - 1)) {
                return all;
            }
            codeCount = 0;
            gatherFrom(0, 0);
            for (int size = 0; size < houses; size++) {
                for (int set = 0; set < all && total <= 1 << 3 * size; set++) {
                    if (Integer.bitCount(set) == size && tellsApart(set)) {
                        return set;
                    }
                }
            }
            return all;
        }

        private void gatherFrom(int house, int code) {
            if (house >= houses) {
                if (codeCount < MOST_CODES) {
                    codes[codeCount] = code;
                    codeCount++;
                }
                return;
            }
            int high = highest(house);
            for (int heads = lowest(house); heads <= high; heads++) {
                if (house + 1 < firstFree) {
                    sums.setHeads(house, heads);
                }
                gatherFrom(house + 1, code | heads << 3 * house);
            }
        }

        private boolean tellsApart(int set) {
            stamp++;
            for (int i = 0; i < codeCount; i++) {
                int seen = partOf(codes[i], set);
                if (stamps[seen] == stamp) {
                    return false;
                }
                stamps[seen] = stamp;
            }
            return true;
        }

        /** Of the houses of a set that is not of all: below MOST_CODES. */
        private int partOf(int code, int set) {
            int part = 0;
            for (int house = 0; house < houses; house++) {
                if ((set >> house & 1) == 1) {
                    part = part << 3 | code >> 3 * house & 7;
                }
            }
            return part & MOST_CODES - 1;
        }
    }

    /** The fewest reports that must be false; kept until others count. */
    private static final class Liars {
        /** By set and the heads of it together: how many reports are not so. */
        final int[][] against = new int[1 << MOST_HOUSES][MOST_TOGETHER + 1];
        final Sums sums = new Sums();
        /** By house: how many at least are not so of the sets whose last house is that or a later one. */
        final int[] owed = new int[MOST_HOUSES + 1];
        final int[] tried = new int[MOST_HOUSES];
        final int[] row = new int[MOST_HOUSES];
        int fewest;
        int houses;
        int mask;
        boolean ready;

        void forget() {
            ready = false;
        }

        void learn(Reports reports, int counting, int count) {
            if (ready && mask == counting && houses == count) {
                return;
            }
            ready = true;
            mask = counting;
            houses = count;
            for (int set = 0; set < 1 << MOST_HOUSES; set++) {
                Arrays.fill(against[set], 0);
            }
            sums.list(takeReports(reports), houses);
            countOwed();
            fewest = Integer.bitCount(mask) + 1;
            searchFrom(0, 0);
        }

        /** Answers the sets that are told of, a bit each. */
        private int takeReports(Reports reports) {
            int told = 0;
            for (int report = 0; report < reports.count; report++) {
                if ((mask >> report & 1) == 1) {
                    int set = reports.sets[report];
                    told |= 1 << set;
                    for (int heads = 0; heads <= MOST_TOGETHER; heads++) {
                        if (heads < reports.leasts[report] || heads > reports.mosts[report]) {
                            against[set][heads]++;
                        }
                    }
                }
            }
            return told;
        }

        private void countOwed() {
            owed[houses] = 0;
            for (int house = houses - 1; house >= 0; house--) {
                owed[house] = owed[house + 1];
                for (int i = 0; i < sums.restCounts[house]; i++) {
                    owed[house] += leastAgainst(sums.rests[house][i] | 1 << house);
                }
            }
        }

        private int leastAgainst(int set) {
            int most = MOST_HEADS * Integer.bitCount(set);
            int best = MOST_REPORTS;
            for (int heads = 0; heads <= most && heads <= MOST_TOGETHER; heads++) {
                best = Math.min(best, against[set][heads]);
            }
            return best;
        }

        /** Rows come in their order, and only a better one is taken: so of like ones it is the first. */
        private void searchFrom(int house, int wrong) {
            if (wrong + owed[house] >= fewest) {
                return;
            }
            if (house >= houses) {
                fewest = wrong;
                System.arraycopy(tried, 0, row, 0, houses);
                return;
            }
            for (int heads = 0; heads <= MOST_HEADS; heads++) {
                int more = againstWith(house, heads);
                tried[house] = heads;
                if (wrong + more + owed[house + 1] < fewest) {
                    sums.setHeads(house, heads);
                    searchFrom(house + 1, wrong + more);
                }
            }
        }

        private int againstWith(int house, int heads) {
            int more = 0;
            for (int i = 0; i < sums.restCounts[house]; i++) {
                int rest = sums.rests[house][i];
                more += against[rest | 1 << house][sums.heads[rest] + heads];
            }
            return more;
        }
    }
}
