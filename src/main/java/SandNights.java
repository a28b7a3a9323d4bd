import java.util.Arrays;

/**
 * A beach that keeps each day's prints till the next one's are laid on.
 * The numbered promises of DOC.md say what each public method answers.
 * All rows are made once and used again, since nothing that a run makes is ever given back.
 */
public final class SandNights {
    public static final int NONE = -1;

    private static final int MANY = -2;
    private static final int MOST_BYTES = 1600;
    private static final int MOST_CELLS = 25;
    private static final int MOST_WALKERS = 5;
    private static final int MOST_HUTS = 4;
    private static final int MOST_UNITS = 30;
    private static final int DEEPEST = 7;
    private static final int ROUTE_MINUTES = 60;
    private static final int LAST_MINUTE = 999;
    private static final int LAST_NIGHT = 999;
    private static final int LONGEST_PRINT = 999;
    private static final int MOST_ACTS = 40;
    private static final int MOST_BOXES = 3;
    private static final int MOST_SIGHTS = 30;
    private static final int SIGHT_MINUTES = 8;
    private static final int LAST_TIME = 100000;

    // What a token is: a sign is its own byte, a word its place among WORDS behind FIRST_WORD.
    private static final int NO_TOKEN = 0;
    private static final int TEXT_END = 1;
    private static final int NUMBER = 2;
    private static final int NAME = 3;
    private static final String SIGNS = ";()<>=+-*/%";
    private static final String WORDS =
        "beach by hut walker at stride slip tide wind draw or and not row column minute night trod ";
    private static final int LONGEST_WORD = 8;
    private static final int LONGEST_NUMBER = 4;
    private static final int FIRST_WORD = 200;
    private static final int BEACH = 200;
    private static final int BY = 201;
    private static final int HUT = 202;
    private static final int WALKER = 203;
    private static final int AT = 204;
    private static final int STRIDE = 205;
    private static final int SLIP = 206;
    private static final int TIDE = 207;
    private static final int WIND = 208;
    private static final int DRAW = 209;
    private static final int OR = 210;
    private static final int AND = 211;
    private static final int NOT = 212;
    private static final int ROW = 213;
    private static final int TROD = 217;

    private static final int FAULT_TOKEN = 1;
    private static final int FAULT_PLACE = 2;
    private static final int FAULT_TWICE = 3;
    private static final int FAULT_NUMBER = 4;

    private final byte[] tape = new byte[MOST_BYTES];
    private int tapeBytes = 0;
    private final Reader reader = new Reader();
    private Told told = new Told();
    private Told spare = new Told();
    private final Ground ground = new Ground();
    private Sand sand = new Sand();
    private final Acts acts = new Acts();
    private final Sand[] boxes = new Sand[MOST_BOXES];
    private int boxesKept = 0;
    private final Finder finder = new Finder();
    private final Sights sights = new Sights();
    private int time = 0;

    public SandNights() {
        begin();
    }

    public int feed(int a, int b, int c, int d, int e) {
        if (tapeBytes + 20 > MOST_BYTES) {
            return NONE;
        }
        putBytes(a);
        putBytes(b);
        putBytes(c);
        putBytes(d);
        putBytes(e);
        return tapeBytes;
    }

    public int end(int n) {
        if (n < 0 || n > tapeBytes) {
            return NONE;
        }
        tapeBytes = n;
        return n;
    }

    public int beach() {
        if (!reader.read(tape, tapeBytes, spare)) {
            return NONE;
        }
        Told before = told;
        told = spare;
        spare = before;
        tapeBytes = 0;
        begin();
        return told.walkers;
    }

    public int fault(int what) {
        if (what == 0) {
            return reader.fault;
        }
        return what == 1 ? reader.faultPlace : NONE;
    }

    public int walker(int walker, int what) {
        if (!isWalker(walker)) {
            return NONE;
        }
        switch (what) {
            case 0:
                return sand.at[walker];
            case 1:
                return told.home[walker];
            case 2:
                return told.stride[walker];
            case 3:
                return told.slip[walker];
            case 4:
                return sand.trodBy[walker];
            case 5:
                return sand.fresh(walker);
            default:
                return NONE;
        }
    }

    public int sand(int cell, int what) {
        if (!isCell(cell)) {
            return MANY;
        }
        switch (what) {
            case 0:
                return sand.top[cell];
            case 1:
                return sand.top[cell] == NONE ? NONE : sand.topMinute[cell];
            case 2:
                return sand.trod[cell];
            case 3:
                return sand.walkersIn(cell, told.walkers);
            case 4:
                return isFree(cell) ? 0 : 1;
            case 5:
                return isWet(cell, sand.minute) ? 1 : 0;
            default:
                return MANY;
        }
    }

    public int over(int walker, int other) {
        return arePair(walker, other) ? sand.over[pair(walker, other)] : NONE;
    }

    public int met(int walker, int other) {
        return arePair(walker, other) ? sand.met[pair(walker, other)] : NONE;
    }

    public int prints() {
        return Integer.bitCount(sand.printed());
    }

    public int step(int walker, int cell) {
        if (!isWalker(walker) || !isCell(cell) || !has(ground.near[sand.at[walker]], cell)) {
            return NONE;
        }
        acts.keep(sand);
        sand.tread(walker, cell);
        return sand.trod[cell];
    }

    public int minute() {
        if (sand.minute >= LAST_MINUTE) {
            return NONE;
        }
        acts.keep(sand);
        sand.passMinute(told.walkers);
        int taken = 0;
        for (int cell = 0; cell < ground.cells; cell++) {
            if (sand.top[cell] != NONE && isWet(cell, sand.minute)) {
                sand.top[cell] = NONE;
                taken++;
            }
        }
        return taken;
    }

    public int night() {
        if (sand.night >= LAST_NIGHT) {
            return NONE;
        }
        acts.keep(sand);
        int taken = sand.blow(told.wind);
        sand.beginDay(told);
        sand.night++;
        return taken;
    }

    public boolean undo() {
        if (acts.done == 0) {
            return false;
        }
        sand = acts.takeBack(sand);
        return true;
    }

    public boolean redo() {
        if (acts.undone == 0) {
            return false;
        }
        sand = acts.doAgain(sand);
        return true;
    }

    public int way(int walker, int cell) {
        finder.lieCount = 0;
        if (!isWalker(walker) || !isCell(cell)) {
            return NONE;
        }
        return finder.layWay(ground, sand.at[walker], cell, 0) ? finder.lieCount - 1 : NONE;
    }

    public int ways(int walker, int cell) {
        if (!isWalker(walker) || !isCell(cell)) {
            return NONE;
        }
        int found = finder.countWays(ground, sand.at[walker], cell);
        return found == 0 ? NONE : found;
    }

    public int sly(int walker, int cell, int what) {
        finder.lieCount = 0;
        if (!isWalker(walker) || !isCell(cell) || !isPart(what)) {
            return NONE;
        }
        int dear = sand.fresh(walker) | ~sand.printed();
        if (!finder.layWay(ground, sand.at[walker], cell, dear)) {
            return NONE;
        }
        return what == 0 ? finder.dearLies(dear) : finder.lieCount - 1;
    }

    public int reach(int walker, int n) {
        if (!isWalker(walker) || n < 0 || n > 25) {
            return NONE;
        }
        int reached = bit(sand.at[walker]);
        for (int i = 0; i < n; i++) {
            reached = ground.spread(reached);
        }
        return reached;
    }

    public int parts() {
        return ground.partsOf(ground.free);
    }

    public int join(int walker, int other, int what) {
        if (!arePair(walker, other) || !isPart(what)) {
            return NONE;
        }
        int reached = bit(sand.at[walker]);
        int otherReached = bit(sand.at[other]);
        for (int minutes = 0; minutes <= MOST_CELLS; minutes++) {
            int both = reached & otherReached;
            if (both != 0) {
                return what == 0 ? minutes : lowest(both);
            }
            reached = ground.spread(reached);
            otherReached = ground.spread(otherReached);
        }
        return NONE;
    }

    public int rounds(int walker, int n) {
        if (!isWalker(walker) || n < 0 || n > 9) {
            return NONE;
        }
        return finder.countRounds(ground, sand.at[walker], n);
    }

    public int guard(int cell, int other, int what) {
        if (!isCell(cell) || !isCell(other) || cell == other || !isPart(what)) {
            return NONE;
        }
        if (!isFree(cell) || !isFree(other)) {
            return NONE;
        }
        int guards = ground.leastGuards(cell, other);
        if (guards == NONE) {
            return NONE;
        }
        return what == 0 ? Integer.bitCount(guards) : guards;
    }

    public int trail(int walker) {
        return isWalker(walker) ? ground.partsOf(sand.fresh(walker)) : NONE;
    }

    public int ghost(int walker, int minute) {
        if (!isWalker(walker) || minute < 0 || minute >= sand.routeLength()) {
            return NONE;
        }
        return sand.routeAt(minute, walker);
    }

    public int first(int walker, int other) {
        if (!arePair(walker, other)) {
            return NONE;
        }
        int length = sand.routeLength();
        for (int minute = 0; minute < length; minute++) {
            if (sand.routeAt(minute, walker) == sand.routeAt(minute, other)) {
                return minute;
            }
        }
        return NONE;
    }

    public int alone(int walker) {
        if (!isWalker(walker)) {
            return NONE;
        }
        int length = sand.routeLength();
        int minutes = 0;
        for (int minute = 0; minute < length; minute++) {
            if (sand.routeCompany(minute, walker, told.walkers) == 1) {
                minutes++;
            }
        }
        return minutes;
    }

    public int crowd(int what) {
        if (!isPart(what)) {
            return NONE;
        }
        int length = sand.routeLength();
        int best = NONE;
        int most = 0;
        for (int minute = 0; minute < length; minute++) {
            for (int walker = 0; walker < told.walkers; walker++) {
                int company = sand.routeCompany(minute, walker, told.walkers);
                if (company > most) {
                    most = company;
                    best = minute;
                }
            }
        }
        return what == 0 || best == NONE ? best : most;
    }

    public int remains(int n, int part) {
        if (n < 0 || n > 3 || !isPart(part)) {
            return NONE;
        }
        return lowestTerms(prints() * power(100 - told.wind, n), power(100, n), part);
    }

    public int cover(int set, int what) {
        if ((set & ~ground.all) != 0 || !isPart(what)) {
            return NONE;
        }
        int best = NONE;
        for (int some = 0; some < 1 << told.walkers; some++) {
            boolean fewer = best == NONE || Integer.bitCount(some) < Integer.bitCount(best);
            if (fewer && (set & ~sand.trodByAll(some)) == 0) {
                best = some;
            }
        }
        return what == 0 && best != NONE ? Integer.bitCount(best) : best;
    }

    public int orders() {
        return ordersOf(0, 0);
    }

    public int may(int length) {
        if (length < 1 || length > LONGEST_PRINT) {
            return NONE;
        }
        int some = 0;
        for (int walker = 0; walker < told.walkers; walker++) {
            if (Math.abs(told.stride[walker] - length) <= told.slip[walker]) {
                some |= bit(walker);
            }
        }
        return some;
    }

    public int matched(int a, int b, int c, int d) {
        boolean fine = isLength(a) && isLength(b) && isLength(c) && isLength(d);
        if (!fine || a == 0 || b == 0 && c != 0 || c == 0 && d != 0) {
            return NONE;
        }
        int most = bit(told.walkers) - 1;
        int first = may(a);
        int second = b == 0 ? NONE : may(b);
        int third = c == 0 ? NONE : may(c);
        int fourth = d == 0 ? NONE : may(d);
        return waysToMatch(first, second, third, fourth, most);
    }

    public int catches(int walker, int other) {
        if (!arePair(walker, other)) {
            return NONE;
        }
        return finder.stepsToCatch(ground, sand.at[walker], sand.at[other]);
    }

    public int lasts(int n, int part) {
        if (n < 0 || n > 4 || !isPart(part)) {
            return NONE;
        }
        return lowestTerms(power(100 - told.wind, n), power(100, n), part);
    }

    public int tides(int n) {
        if (n < 0 || n > 60) {
            return NONE;
        }
        int left = 0;
        for (int cell = 0; cell < ground.cells; cell++) {
            if (sand.top[cell] != NONE && staysDry(cell, n)) {
                left++;
            }
        }
        return left;
    }

    public int boldest() {
        int best = NONE;
        int most = -1;
        for (int walker = 0; walker < told.walkers; walker++) {
            int prints = Integer.bitCount(sand.fresh(walker));
            if (prints > most) {
                most = prints;
                best = walker;
            }
        }
        return best;
    }

    public int lies(int i) {
        return i >= 0 && i < finder.lieCount ? finder.lie[i] : NONE;
    }

    public int seen(int minute, int cell, boolean is) {
        if (!isCell(cell)) {
            return NONE;
        }
        return sights.tell(minute, is ? bit(cell) : ~bit(cell), time);
    }

    public int inRow(int minute, int row, boolean is) {
        if (row < 0 || row >= ground.rows) {
            return NONE;
        }
        int cells = ground.rowCells(row);
        return sights.tell(minute, is ? cells : ~cells, time);
    }

    public boolean untell(int sight) {
        return sights.takeOff(sight, time);
    }

    public int later(int by) {
        if (by < 0 || by > 1000 || time + by > LAST_TIME) {
            return NONE;
        }
        time += by;
        return time;
    }

    public int paths(int k) {
        sights.count(ground, k);
        return sights.all();
    }

    public int sure(int minute, int k) {
        if (minute < 0 || minute >= SIGHT_MINUTES) {
            return NONE;
        }
        sights.count(ground, k);
        int cells = sights.cellsAt(minute);
        if (cells == 0) {
            return NONE;
        }
        return Integer.bitCount(cells) == 1 ? lowest(cells) : MANY;
    }

    public int ask(int what, int k) {
        if (!isPart(what)) {
            return NONE;
        }
        sights.count(ground, k);
        if (sights.all() == 0) {
            return NONE;
        }
        int best = 0;
        int fewest = sights.mostAt(0);
        for (int minute = 1; minute < SIGHT_MINUTES; minute++) {
            int left = sights.mostAt(minute);
            if (left < fewest) {
                fewest = left;
                best = minute;
            }
        }
        return what == 0 ? best : fewest;
    }

    public int image(int box) {
        if (box < 0 || box >= MOST_BOXES) {
            return NONE;
        }
        Sand kept = boxes[box];
        if (kept == null) {
            kept = new Sand();
            boxes[box] = kept;
        }
        kept.copyOf(sand);
        boxesKept |= bit(box);
        return sand.minute;
    }

    public int back(int box) {
        if (box < 0 || box >= MOST_BOXES || !has(boxesKept, box)) {
            return NONE;
        }
        Sand kept = boxes[box];
        if (kept == null) {
            return NONE;
        }
        sand.copyOf(kept);
        acts.forget();
        return sand.minute;
    }

    public int about(int what) {
        switch (what) {
            case 0:
                return told.walkers;
            case 1:
                return ground.columns;
            case 2:
                return ground.rows;
            case 3:
                return Integer.bitCount(told.huts);
            case 4:
                return sand.minute;
            case 5:
                return sand.night;
            case 6:
                return sand.seed;
            case 7:
                return acts.done;
            case 8:
                return acts.undone;
            case 9:
                return sights.told;
            case 10:
                return time;
            case 11:
                return tapeBytes;
            case 12:
                return told.units;
            case 13:
                return finder.lieCount;
            default:
                return NONE;
        }
    }

    private void putBytes(int number) {
        for (int shift = 24; shift >= 0; shift -= 8) {
            if (tapeBytes < MOST_BYTES) {
                tape[tapeBytes] = (byte) (number >> shift);
                tapeBytes++;
            }
        }
    }

    private void begin() {
        ground.shape(told.columns, told.rows, told.huts);
        sand.beginAnew(told);
        acts.forget();
        sights.told = 0;
        finder.lieCount = 0;
        boxesKept = 0;
    }

    private boolean isWalker(int walker) {
        return walker >= 0 && walker < told.walkers;
    }

    private boolean arePair(int walker, int other) {
        return isWalker(walker) && isWalker(other) && walker != other;
    }

    private boolean isCell(int cell) {
        return cell >= 0 && cell < ground.cells;
    }

    private boolean isFree(int cell) {
        return has(ground.free, cell);
    }

    private boolean isWet(int cell, int minute) {
        return told.tide.value(ground.rowOf[cell], ground.columnOf[cell], minute, sand.night, sand.trod[cell]) != 0;
    }

    private boolean staysDry(int cell, int minutes) {
        for (int i = 1; i <= minutes; i++) {
            if (isWet(cell, sand.minute + i)) {
                return false;
            }
        }
        return true;
    }

    // Walkers are put one behind the other; one may come as soon as all over whom he lies have come.
    private int ordersOf(int come, int howMany) {
        if (howMany >= told.walkers) {
            return 1;
        }
        int found = 0;
        for (int walker = 0; walker < told.walkers; walker++) {
            if (!has(come, walker) && (sand.under(walker, told.walkers) & ~come) == 0) {
                found += ordersOf(come | bit(walker), howMany + 1);
            }
        }
        return found;
    }

    // NONE stands for a length that is not there; the next one moves up, so the depth is four.
    private static int waysToMatch(int first, int second, int third, int fourth, int unused) {
        if (first == NONE) {
            return 1;
        }
        int found = 0;
        for (int walker = 0; walker < MOST_WALKERS; walker++) {
            if (has(first & unused, walker)) {
                found += waysToMatch(second, third, fourth, NONE, unused & ~bit(walker));
            }
        }
        return found;
    }

    private static boolean isLength(int length) {
        return length >= 0 && length <= LONGEST_PRINT;
    }

    private static boolean isPart(int what) {
        return what == 0 || what == 1;
    }

    private static int bit(int place) {
        return 1 << place;
    }

    private static boolean has(int set, int place) {
        return (set >> place & 1) != 0;
    }

    private static int lowest(int set) {
        return Integer.bitCount((set & -set) - 1);
    }

    private static int pair(int walker, int other) {
        return walker * MOST_WALKERS + other;
    }

    private static int power(int base, int n) {
        int product = 1;
        for (int i = 0; i < n; i++) {
            product *= base;
        }
        return product;
    }

    private static int lowestTerms(int upper, int lower, int part) {
        int divisor = lower;
        int rest = upper;
        for (int i = 0; i < 100 && rest != 0; i++) {
            int next = divisor % rest;
            divisor = rest;
            rest = next;
        }
        if (divisor == 0) {
            return NONE;
        }
        return (part == 0 ? upper : lower) / divisor;
    }

    private static int sumOf(int[] numbers, int from, int places) {
        int sum = 0;
        for (int i = 0; i < MOST_CELLS && from >= 0 && from + i < numbers.length; i++) {
            sum += has(places, i) ? numbers[from + i] : 0;
        }
        return sum;
    }

    /** What a text tells. */
    private static final class Told {
        final int[] home = new int[MOST_WALKERS];
        final int[] stride = new int[MOST_WALKERS];
        final int[] slip = new int[MOST_WALKERS];
        final Formula tide = new Formula();
        int columns = 4;
        int rows = 4;
        int huts = 0;
        int homes = 0;
        int walkers = 0;
        int wind = 0;
        int draw = 0;
        int units = 0;

        void clear() {
            tide.length = 0;
            columns = 4;
            rows = 4;
            huts = 0;
            homes = 0;
            walkers = 0;
            wind = 0;
            draw = 0;
            units = 0;
        }
    }

    /** A formula with its operators behind what they join; an untold one comes to 0. */
    private static final class Formula {
        // At most 30 units, 29 joins and 7 nots ahead of each unit.
        final int[] code = new int[280];
        final int[] stack = new int[MOST_UNITS + 1];
        final int[] given = new int[TROD - ROW + 1];
        int length = 0;

        // Numbers are 0 or more, so a token's kind is put below 0.
        void putNumber(int number) {
            put(number);
        }

        void putKind(int kind) {
            put(-kind);
        }

        private void put(int piece) {
            if (length < code.length) {
                code[length] = piece;
                length++;
            }
        }

        int value(int row, int column, int minute, int night, int trod) {
            given[0] = row;
            given[1] = column;
            given[2] = minute;
            given[3] = night;
            given[4] = trod;
            int height = 0;
            for (int i = 0; i < length; i++) {
                int kind = -code[i];
                if (kind <= 0 || kind >= ROW) {
                    if (height < stack.length) {
                        stack[height] = kind <= 0 ? -kind : given[Math.min(kind, TROD) - ROW];
                        height++;
                    }
                } else if (kind == NOT) {
                    if (height >= 1) {
                        stack[height - 1] = stack[height - 1] == 0 ? 1 : 0;
                    }
                } else if (height >= 2) {
                    height--;
                    stack[height - 1] = joined(kind, stack[height - 1], stack[height]);
                }
            }
            return height > 0 ? stack[0] : 0;
        }

        private static int joined(int kind, int left, int right) {
            switch (kind) {
                case '+':
                    return left + right;
                case '-':
                    return left - right;
                case '*':
                    return left * right;
                case '/':
                    return right == 0 ? 0 : left / right;
                case '%':
                    return right == 0 ? 0 : left % right;
                case '<':
                    return left < right ? 1 : 0;
                case '>':
                    return left > right ? 1 : 0;
                case '=':
                    return left == right ? 1 : 0;
                case AND:
                    return left != 0 && right != 0 ? 1 : 0;
                default:
                    return left != 0 || right != 0 ? 1 : 0;
            }
        }
    }

    /** Reads a text, token by token, so that the first fault met is the first by its place. */
    private static final class Reader {
        final long[] names = new long[MOST_WALKERS];
        byte[] text = null;
        int length = 0;
        Told told = null;
        int fault = 0;
        int faultPlace = NONE;
        private int at = 0;
        private int behind = 0;
        private int kind = TEXT_END;
        private int value = 0;
        private long word = 0;
        private int lines = 0;
        private boolean tideTold = false;
        private boolean windTold = false;
        private boolean drawTold = false;

        boolean read(byte[] bytes, int howMany, Told into) {
            text = bytes;
            length = Math.min(howMany, bytes.length);
            told = into;
            told.clear();
            fault = 0;
            faultPlace = NONE;
            behind = 0;
            tideTold = false;
            windTold = false;
            drawTold = false;
            advance();
            boolean fine = true;
            for (lines = 0; lines < MOST_BYTES && fine && kind != TEXT_END; lines++) {
                fine = readLine() && accept(';');
            }
            return fine;
        }

        private boolean readLine() {
            switch (kind) {
                case BEACH:
                    return readSize();
                case HUT:
                    return readHut();
                case WALKER:
                    return readWalker();
                case TIDE:
                    return readTide();
                case WIND:
                    return readWind();
                case DRAW:
                    return readDraw();
                default:
                    return refuse(FAULT_PLACE);
            }
        }

        private boolean readSize() {
            if (lines > 0) {
                return refuse(FAULT_PLACE);
            }
            advance();
            if (!isNumber(2, 5)) {
                return false;
            }
            told.columns = value;
            advance();
            if (!accept(BY) || !isNumber(2, 5)) {
                return false;
            }
            told.rows = value;
            advance();
            return true;
        }

        private boolean readHut() {
            if (Integer.bitCount(told.huts) >= MOST_HUTS) {
                return refuse(FAULT_PLACE);
            }
            advance();
            int cell = readCell(told.huts | told.homes);
            if (cell == NONE) {
                return false;
            }
            told.huts |= bit(cell);
            return true;
        }

        private boolean readWalker() {
            int walker = told.walkers;
            if (walker < 0 || walker >= MOST_WALKERS) {
                return refuse(FAULT_PLACE);
            }
            advance();
            if (!readName(walker) || !accept(AT)) {
                return false;
            }
            int cell = readCell(told.huts);
            if (cell == NONE || !accept(STRIDE) || !isNumber(10, 99)) {
                return false;
            }
            told.home[walker] = cell;
            told.homes |= bit(cell);
            told.stride[walker] = value;
            told.slip[walker] = 0;
            advance();
            if (kind == SLIP) {
                advance();
                if (!isNumber(0, 9)) {
                    return false;
                }
                told.slip[walker] = value;
                advance();
            }
            told.walkers++;
            return true;
        }

        private boolean readName(int walker) {
            if (kind != NAME) {
                return refuse(FAULT_PLACE);
            }
            for (int i = 0; i < walker && i < MOST_WALKERS; i++) {
                if (names[i] == word) {
                    return refuse(FAULT_TWICE);
                }
            }
            names[walker] = word;
            advance();
            return true;
        }

        private int readCell(int taken) {
            if (!isNumber(0, told.columns - 1)) {
                return NONE;
            }
            int column = value;
            advance();
            if (!isNumber(0, told.rows - 1)) {
                return NONE;
            }
            int cell = value * told.columns + column;
            if (has(taken, cell)) {
                refuse(FAULT_TWICE);
                return NONE;
            }
            advance();
            return cell;
        }

        private boolean readTide() {
            if (tideTold) {
                return refuse(FAULT_PLACE);
            }
            tideTold = true;
            advance();
            return readEither(0);
        }

        private boolean readWind() {
            if (windTold) {
                return refuse(FAULT_PLACE);
            }
            windTold = true;
            advance();
            if (!isNumber(0, 100)) {
                return false;
            }
            told.wind = value;
            advance();
            return true;
        }

        private boolean readDraw() {
            if (drawTold) {
                return refuse(FAULT_PLACE);
            }
            drawTold = true;
            advance();
            if (!isNumber(0, 999)) {
                return false;
            }
            told.draw = value;
            advance();
            return true;
        }

        private boolean readEither(int depth) {
            boolean fine = readBoth(depth);
            for (int i = 0; i < MOST_BYTES && fine && kind == OR; i++) {
                advance();
                fine = readBoth(depth);
                told.tide.putKind(OR);
            }
            return fine;
        }

        private boolean readBoth(int depth) {
            boolean fine = readOne(depth);
            for (int i = 0; i < MOST_BYTES && fine && kind == AND; i++) {
                advance();
                fine = readOne(depth);
                told.tide.putKind(AND);
            }
            return fine;
        }

        private boolean readOne(int depth) {
            if (kind == NOT) {
                if (depth >= DEEPEST) {
                    return refuse(FAULT_PLACE);
                }
                advance();
                boolean behindNot = readOne(depth + 1);
                told.tide.putKind(NOT);
                return behindNot;
            }
            boolean fine = readSum(depth);
            if (fine && (kind == '<' || kind == '>' || kind == '=')) {
                int sign = kind;
                advance();
                fine = readSum(depth);
                told.tide.putKind(sign);
            }
            return fine;
        }

        private boolean readSum(int depth) {
            boolean fine = readTerm(depth);
            for (int i = 0; i < MOST_BYTES && fine && (kind == '+' || kind == '-'); i++) {
                int sign = kind;
                advance();
                fine = readTerm(depth);
                told.tide.putKind(sign);
            }
            return fine;
        }

        private boolean readTerm(int depth) {
            boolean fine = readUnit(depth);
            for (int i = 0; i < MOST_BYTES && fine && (kind == '*' || kind == '/' || kind == '%'); i++) {
                int sign = kind;
                advance();
                fine = readUnit(depth);
                told.tide.putKind(sign);
            }
            return fine;
        }

        // There is but one tide, so its 30 units are all that can be told: the 60 in all are never reached.
        private boolean readUnit(int depth) {
            boolean opens = kind == '(';
            boolean named = kind >= ROW && kind <= TROD;
            boolean starts = kind == NUMBER || named || opens && depth < DEEPEST;
            if (!starts || told.units >= MOST_UNITS) {
                return refuse(FAULT_PLACE);
            }
            told.units++;
            if (opens) {
                advance();
                return readEither(depth + 1) && accept(')');
            }
            if (named) {
                told.tide.putKind(kind);
            } else {
                told.tide.putNumber(value);
            }
            advance();
            return true;
        }

        private boolean accept(int wanted) {
            if (kind != wanted) {
                return refuse(FAULT_PLACE);
            }
            advance();
            return true;
        }

        private boolean isNumber(int least, int most) {
            if (kind != NUMBER) {
                return refuse(FAULT_PLACE);
            }
            return value >= least && value <= most || refuse(FAULT_NUMBER);
        }

        // What is no token can't stand anywhere either; at one place the least fault counts.
        private boolean refuse(int which) {
            fault = kind == NO_TOKEN ? FAULT_TOKEN : which;
            faultPlace = at;
            return false;
        }

        private void advance() {
            at = behind;
            while (at < length && isBlank(byteAt(at))) {
                at++;
            }
            int first = byteAt(at);
            if (isLetter(first)) {
                takeWord();
            } else if (isDigit(first)) {
                takeNumber();
            } else if (first == NONE) {
                kind = TEXT_END;
                behind = at;
            } else {
                kind = SIGNS.indexOf((char) first) >= 0 ? first : NO_TOKEN;
                behind = at + 1;
            }
        }

        private void takeWord() {
            word = 0;
            for (behind = at; behind < length && isLetter(byteAt(behind)); behind++) {
                word = word * 32 + (byteAt(behind) - 'a' + 1);
            }
            kind = behind - at > LONGEST_WORD ? NO_TOKEN : NAME;
            long packed = 0;
            int found = FIRST_WORD;
            for (int i = 0; i < WORDS.length() && kind == NAME; i++) {
                int letter = WORDS.charAt(i);
                if (letter != ' ') {
                    packed = packed * 32 + (letter - 'a' + 1);
                } else {
                    kind = packed == word ? found : NAME;
                    packed = 0;
                    found++;
                }
            }
        }

        private void takeNumber() {
            value = 0;
            for (behind = at; behind < length && isDigit(byteAt(behind)); behind++) {
                value = value * 10 + (byteAt(behind) - '0');
            }
            kind = behind - at > LONGEST_NUMBER || isLetter(byteAt(behind)) ? NO_TOKEN : NUMBER;
        }

        private int byteAt(int place) {
            if (text == null || place < 0 || place >= length || place >= text.length) {
                return NONE;
            }
            return text[place] & 255;
        }

        private static boolean isBlank(int sign) {
            return sign == 32 || sign == 10;
        }

        private static boolean isLetter(int sign) {
            return sign >= 'a' && sign <= 'z';
        }

        private static boolean isDigit(int sign) {
            return sign >= '0' && sign <= '9';
        }
    }

    /** Cells, and where steps lead; sets of cells are bits. */
    private static final class Ground {
        final int[] near = new int[MOST_CELLS];
        final int[] rowOf = new int[MOST_CELLS];
        final int[] columnOf = new int[MOST_CELLS];
        int columns = 0;
        int rows = 0;
        int cells = 0;
        int all = 0;
        int free = 0;
        private int firstColumn = 0;
        private int lastColumn = 0;

        void shape(int howManyColumns, int howManyRows, int huts) {
            columns = howManyColumns;
            rows = howManyRows;
            cells = Math.min(columns * rows, MOST_CELLS);
            all = bit(cells) - 1;
            free = all & ~huts;
            firstColumn = 0;
            lastColumn = 0;
            int row = 0;
            int column = 0;
            for (int cell = 0; cell < cells; cell++) {
                rowOf[cell] = row;
                columnOf[cell] = column;
                firstColumn |= column == 0 ? bit(cell) : 0;
                lastColumn |= column == columns - 1 ? bit(cell) : 0;
                row += column == columns - 1 ? 1 : 0;
                column = column == columns - 1 ? 0 : column + 1;
            }
            for (int cell = 0; cell < cells; cell++) {
                near[cell] = has(free, cell) ? spread(bit(cell)) : 0;
            }
        }

        int rowCells(int row) {
            return (bit(columns) - 1) << row * columns;
        }

        // Where one step, or staying, leads from a set.
        int spread(int set) {
            int aside = (set & ~lastColumn) << 1 | (set & ~firstColumn) >>> 1;
            int across = set << columns | set >>> columns;
            return (set | aside | across) & free;
        }

        // All that steps within a set lead to; nothing, at once, if they lead to what is barred.
        private int flood(int set, int within, int barred) {
            int reached = set & within;
            for (int i = 0; i < MOST_CELLS && (reached & barred) == 0; i++) {
                int next = spread(reached) & within;
                if (next == reached) {
                    return reached;
                }
                reached = next;
            }
            return (reached & barred) == 0 ? reached : 0;
        }

        int partsOf(int set) {
            int left = set & free;
            int parts = 0;
            for (int i = 0; i < MOST_CELLS && left != 0; i++) {
                left &= ~flood(left & -left, left, 0);
                parts++;
            }
            return parts;
        }

        int leastGuards(int from, int to) {
            if (has(near[from], to)) {
                return NONE;
            }
            for (int howMany = 0; howMany <= 3; howMany++) {
                int guards = guardsOf(howMany, cells, 0, from, to);
                if (guards != NONE) {
                    return guards;
                }
            }
            return NONE;
        }

        // The highest guard is set first, upward, so that the first set found is the least as bits.
        private int guardsOf(int howMany, int below, int guards, int from, int to) {
            if (howMany <= 0) {
                return flood(bit(from), free & ~guards, bit(to)) == 0 ? NONE : guards;
            }
            for (int cell = howMany - 1; cell < below; cell++) {
                if (cell != from && cell != to && has(free, cell)) {
                    int found = guardsOf(howMany - 1, cell, guards | bit(cell), from, to);
                    if (found != NONE) {
                        return found;
                    }
                }
            }
            return NONE;
        }
    }

    /** All that acts change: where walkers are, prints, what happened today, who met. */
    private static final class Sand {
        final int[] top = new int[MOST_CELLS];
        final int[] topMinute = new int[MOST_CELLS];
        final int[] trod = new int[MOST_CELLS];
        final int[] at = new int[MOST_WALKERS];
        final int[] trodBy = new int[MOST_WALKERS];
        final int[] over = new int[MOST_WALKERS * MOST_WALKERS];
        final int[] met = new int[MOST_WALKERS * MOST_WALKERS];
        final int[] route = new int[ROUTE_MINUTES * MOST_WALKERS];
        int minute = 0;
        int night = 0;
        int seed = 0;

        void copyOf(Sand other) {
            System.arraycopy(other.top, 0, top, 0, MOST_CELLS);
            System.arraycopy(other.topMinute, 0, topMinute, 0, MOST_CELLS);
            System.arraycopy(other.trod, 0, trod, 0, MOST_CELLS);
            System.arraycopy(other.at, 0, at, 0, MOST_WALKERS);
            System.arraycopy(other.trodBy, 0, trodBy, 0, MOST_WALKERS);
            System.arraycopy(other.over, 0, over, 0, MOST_WALKERS * MOST_WALKERS);
            System.arraycopy(other.met, 0, met, 0, MOST_WALKERS * MOST_WALKERS);
            System.arraycopy(other.route, 0, route, 0, ROUTE_MINUTES * MOST_WALKERS);
            minute = other.minute;
            night = other.night;
            seed = other.seed;
        }

        void beginAnew(Told told) {
            Arrays.fill(top, NONE);
            Arrays.fill(met, 0);
            night = 0;
            seed = told.draw;
            beginDay(told);
        }

        void beginDay(Told told) {
            System.arraycopy(told.home, 0, at, 0, MOST_WALKERS);
            Arrays.fill(trod, 0);
            Arrays.fill(trodBy, 0);
            Arrays.fill(over, 0);
            minute = 0;
        }

        void tread(int walker, int cell) {
            at[walker] = cell;
            int below = top[cell];
            if (below != NONE && below != walker) {
                over[pair(walker, below)]++;
            }
            top[cell] = walker;
            topMinute[cell] = minute;
            trod[cell]++;
            trodBy[walker] |= bit(cell);
        }

        void passMinute(int walkers) {
            for (int walker = 0; walker < walkers; walker++) {
                if (minute < ROUTE_MINUTES) {
                    route[minute * MOST_WALKERS + walker] = at[walker];
                }
                for (int other = 0; other < walkers; other++) {
                    if (other != walker && at[other] == at[walker]) {
                        met[pair(walker, other)]++;
                    }
                }
            }
            minute++;
        }

        int blow(int wind) {
            int taken = 0;
            for (int cell = 0; cell < MOST_CELLS; cell++) {
                if (top[cell] != NONE) {
                    seed = (seed * 137 + 71) % 1000;
                    if (seed % 100 < wind) {
                        top[cell] = NONE;
                        taken++;
                    }
                }
            }
            return taken;
        }

        int fresh(int walker) {
            int cells = 0;
            for (int cell = 0; cell < MOST_CELLS; cell++) {
                cells |= top[cell] == walker ? bit(cell) : 0;
            }
            return cells;
        }

        int printed() {
            int cells = 0;
            for (int cell = 0; cell < MOST_CELLS; cell++) {
                cells |= top[cell] != NONE ? bit(cell) : 0;
            }
            return cells;
        }

        int walkersIn(int cell, int walkers) {
            int some = 0;
            for (int walker = 0; walker < walkers; walker++) {
                some |= at[walker] == cell ? bit(walker) : 0;
            }
            return some;
        }

        int trodByAll(int some) {
            int cells = 0;
            for (int walker = 0; walker < MOST_WALKERS; walker++) {
                cells |= has(some, walker) ? trodBy[walker] : 0;
            }
            return cells;
        }

        int under(int walker, int walkers) {
            int some = 0;
            for (int other = 0; other < walkers; other++) {
                some |= over[pair(walker, other)] > 0 ? bit(other) : 0;
            }
            return some;
        }

        int routeLength() {
            return Math.min(minute, ROUTE_MINUTES);
        }

        int routeAt(int when, int walker) {
            return route[when * MOST_WALKERS + walker];
        }

        int routeCompany(int when, int walker, int walkers) {
            int company = 0;
            for (int other = 0; other < walkers; other++) {
                company += routeAt(when, other) == routeAt(when, walker) ? 1 : 0;
            }
            return company;
        }
    }

    /**
     * The acts that can be undone, then those that can be redone, round in one row.
     * A done act's place holds the sand ahead of it, an undone one's the sand behind it,
     * so that undoing and redoing are a mere exchange with the sand of now.
     */
    private static final class Acts {
        private final Sand[] kept = new Sand[MOST_ACTS];
        private int oldest = 0;
        int done = 0;
        int undone = 0;

        void forget() {
            done = 0;
            undone = 0;
        }

        void keep(Sand now) {
            undone = 0;
            if (done >= MOST_ACTS) {
                oldest = (oldest + 1) % MOST_ACTS;
                done--;
            }
            int place = (oldest + done) % MOST_ACTS;
            Sand room = kept[place];
            if (room == null) {
                room = new Sand();
                kept[place] = room;
            }
            room.copyOf(now);
            done++;
        }

        Sand takeBack(Sand now) {
            done--;
            undone++;
            return exchange(now);
        }

        Sand doAgain(Sand now) {
            Sand again = exchange(now);
            done++;
            undone--;
            return again;
        }

        private Sand exchange(Sand now) {
            int place = Math.floorMod(oldest + done, MOST_ACTS);
            Sand other = kept[place];
            if (other == null) {
                return now;
            }
            kept[place] = now;
            return other;
        }
    }

    /** Ways over the ground, counted or laid down, and the chase. */
    private static final class Finder {
        // A print weighs more than all steps of a way can.
        private static final int PRINT = 32;
        private static final int FAR = 1 << 20;

        final int[] lie = new int[MOST_CELLS];
        int lieCount = 0;
        private final int[] price = new int[MOST_CELLS];
        private final int[] count = new int[MOST_CELLS];
        private final int[] next = new int[MOST_CELLS];

        private static int weight(int dear, int cell) {
            return has(dear, cell) ? PRINT + 1 : 1;
        }

        // What the cheapest way from each cell to the goal costs, by the cells that it comes to.
        private void priceAll(Ground ground, int goal, int dear) {
            Arrays.fill(price, FAR);
            price[goal] = has(ground.free, goal) ? 0 : FAR;
            boolean changed = true;
            for (int round = 0; round < MOST_CELLS && changed; round++) {
                changed = false;
                for (int cell = 0; cell < ground.cells; cell++) {
                    int by = cheapestStep(ground, cell, dear);
                    if (by != NONE && price[by] + weight(dear, by) < price[cell]) {
                        price[cell] = price[by] + weight(dear, by);
                        changed = true;
                    }
                }
            }
        }

        // Of like ones the first, since a way is the first cell by cell.
        private int cheapestStep(Ground ground, int cell, int dear) {
            int best = NONE;
            int least = FAR;
            for (int by = 0; by < ground.cells; by++) {
                if (by != cell && has(ground.near[cell], by) && price[by] + weight(dear, by) < least) {
                    least = price[by] + weight(dear, by);
                    best = by;
                }
            }
            return best;
        }

        boolean layWay(Ground ground, int from, int goal, int dear) {
            lieCount = 0;
            priceAll(ground, goal, dear);
            if (price[from] >= FAR) {
                return false;
            }
            int cell = from;
            lie[0] = cell;
            lieCount = 1;
            for (int i = 1; i < MOST_CELLS && cell != goal && cell != NONE; i++) {
                cell = cheapestStep(ground, cell, dear);
                lie[i] = cell;
                lieCount++;
            }
            return true;
        }

        int dearLies(int dear) {
            int found = 0;
            for (int i = 1; i < lieCount; i++) {
                found += has(dear, lie[i]) ? 1 : 0;
            }
            return found;
        }

        int countWays(Ground ground, int from, int goal) {
            priceAll(ground, goal, 0);
            Arrays.fill(count, 0);
            count[goal] = price[goal] == 0 ? 1 : 0;
            for (int steps = 1; steps < MOST_CELLS; steps++) {
                for (int cell = 0; cell < ground.cells; cell++) {
                    if (price[cell] == steps) {
                        count[cell] = countNearer(ground, cell);
                    }
                }
            }
            return count[from];
        }

        private int countNearer(Ground ground, int cell) {
            int found = 0;
            for (int by = 0; by < ground.cells; by++) {
                if (has(ground.near[cell], by) && price[by] == price[cell] - 1) {
                    found += count[by];
                }
            }
            return found;
        }

        int countRounds(Ground ground, int from, int n) {
            Arrays.fill(count, 0);
            count[from] = 1;
            for (int i = 0; i < n; i++) {
                for (int cell = 0; cell < ground.cells; cell++) {
                    next[cell] = sumOf(count, 0, ground.near[cell]);
                }
                System.arraycopy(next, 0, count, 0, ground.cells);
            }
            return count[from];
        }

        // count: for each cell of the chaser, who is to step, where he catches the other one by so many steps.
        // next: the same once he has stepped to that cell and the other one is to step.
        int stepsToCatch(Ground ground, int chaser, int other) {
            for (int cell = 0; cell < ground.cells; cell++) {
                count[cell] = bit(cell);
            }
            boolean changed = true;
            for (int steps = 0; steps <= MOST_CELLS * MOST_CELLS && changed; steps++) {
                if (has(count[chaser], other)) {
                    return steps;
                }
                for (int cell = 0; cell < ground.cells; cell++) {
                    next[cell] = caughtFrom(ground, cell);
                }
                changed = false;
                for (int cell = 0; cell < ground.cells; cell++) {
                    int caught = count[cell] | unionOf(next, ground.near[cell]);
                    changed |= caught != count[cell];
                    count[cell] = caught;
                }
            }
            return NONE;
        }

        private int caughtFrom(Ground ground, int chaser) {
            int caught = bit(chaser);
            for (int cell = 0; cell < ground.cells; cell++) {
                if (has(ground.free, cell) && (ground.near[cell] & ~count[chaser]) == 0) {
                    caught |= bit(cell);
                }
            }
            return caught;
        }

        private static int unionOf(int[] sets, int places) {
            int union = 0;
            for (int i = 0; i < MOST_CELLS && i < sets.length; i++) {
                union |= has(places, i) ? sets[i] : 0;
            }
            return union;
        }
    }

    /** What was seen of somebody, and the ways that he can have gone. */
    private static final class Sights {
        private final int[] minuteOf = new int[MOST_SIGHTS];
        private final int[] allowed = new int[MOST_SIGHTS];
        private final int[] toldAt = new int[MOST_SIGHTS];
        private final int[] untoldAt = new int[MOST_SIGHTS];
        int told = 0;
        // Ways that lead to a cell at a minute, and ways that go on from it.
        private final int[] ahead = new int[SIGHT_MINUTES * MOST_CELLS];
        private final int[] onward = new int[SIGHT_MINUTES * MOST_CELLS];

        int tell(int minute, int cells, int time) {
            if (minute < 0 || minute >= SIGHT_MINUTES || told < 0 || told >= MOST_SIGHTS) {
                return NONE;
            }
            minuteOf[told] = minute;
            allowed[told] = cells;
            toldAt[told] = time;
            untoldAt[told] = NONE;
            told++;
            return told - 1;
        }

        boolean takeOff(int sight, int time) {
            if (sight < 0 || sight >= told || untoldAt[sight] != NONE) {
                return false;
            }
            untoldAt[sight] = time;
            return true;
        }

        private boolean counts(int sight, int k) {
            boolean untold = untoldAt[sight] != NONE && untoldAt[sight] <= k;
            return toldAt[sight] <= k && !untold;
        }

        private int possible(Ground ground, int minute, int k) {
            int cells = ground.free;
            for (int sight = 0; sight < told; sight++) {
                if (minuteOf[sight] == minute && counts(sight, k)) {
                    cells &= allowed[sight];
                }
            }
            return cells;
        }

        void count(Ground ground, int k) {
            for (int minute = 0; minute < SIGHT_MINUTES; minute++) {
                fill(ground, ahead, minute, minute - 1, possible(ground, minute, k));
            }
            for (int minute = SIGHT_MINUTES - 1; minute >= 0; minute--) {
                int from = minute + 1 < SIGHT_MINUTES ? minute + 1 : NONE;
                fill(ground, onward, minute, from, possible(ground, minute, k));
            }
        }

        private static void fill(Ground ground, int[] ways, int minute, int from, int cells) {
            for (int cell = 0; cell < MOST_CELLS; cell++) {
                int found = 0;
                if (has(cells, cell)) {
                    found = from < 0 ? 1 : sumOf(ways, from * MOST_CELLS, ground.near[cell]);
                }
                ways[minute * MOST_CELLS + cell] = found;
            }
        }

        int all() {
            int found = 0;
            for (int cell = 0; cell < MOST_CELLS; cell++) {
                found += onward[cell];
            }
            return found;
        }

        private int through(int minute, int cell) {
            return ahead[minute * MOST_CELLS + cell] * onward[minute * MOST_CELLS + cell];
        }

        int cellsAt(int minute) {
            int cells = 0;
            for (int cell = 0; cell < MOST_CELLS; cell++) {
                cells |= through(minute, cell) > 0 ? bit(cell) : 0;
            }
            return cells;
        }

        int mostAt(int minute) {
            int most = 0;
            for (int cell = 0; cell < MOST_CELLS; cell++) {
                most = Math.max(most, through(minute, cell));
            }
            return most;
        }
    }
}
