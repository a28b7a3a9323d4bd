import java.util.ArrayList;
import java.util.Arrays;
import java.util.HashMap;
import java.util.HashSet;
import java.util.List;
import java.util.Map;
import java.util.Set;
import java.util.function.IntBinaryOperator;
import java.util.regex.Matcher;
import java.util.regex.Pattern;

/** The document once more, written another way (by trying all there is), to compare answers with. */
public final class Model {
    private static final Set<String> RESERVED = new HashSet<>(Arrays.asList(
        ("beach by hut walker at stride slip tide wind draw or and not row column minute night trod").split(" ")));

    /** A formula by what it is given: row, column, minute, night, trod. */
    interface Tree {
        int of(int[] given);
    }

    private static final class Fault extends RuntimeException {
        private static final long serialVersionUID = 1;
        final int kind;
        final int place;

        Fault(int kind, int place) {
            this.kind = kind;
            this.place = place;
        }
    }

    private record Token(String text, int place) {
    }

    private record Person(String name, int cell, int stride, int slip) {
    }

    private record Sight(int minute, Set<Integer> cells, int told, int[] untold) {
    }

    private static final class Beach {
        int columns = 4;
        int rows = 4;
        final List<Integer> huts = new ArrayList<>();
        final List<Person> people = new ArrayList<>();
        Tree tide;
        Integer wind;
        Integer draw;
        int units = 0;
    }

    private static final class Day {
        Map<Integer, int[]> tops = new HashMap<>();
        Map<Integer, Integer> trod = new HashMap<>();
        List<Integer> at = new ArrayList<>();
        List<Set<Integer>> trodBy = new ArrayList<>();
        Map<String, Integer> over = new HashMap<>();
        Map<String, Integer> met = new HashMap<>();
        List<List<Integer>> route = new ArrayList<>();
        int minute;
        int night;
        int seed;

        Day copy() {
            Day d = new Day();
            tops.forEach((k, v) -> d.tops.put(k, v.clone()));
            d.trod.putAll(trod);
            d.at.addAll(at);
            trodBy.forEach(s -> d.trodBy.add(new HashSet<>(s)));
            d.over.putAll(over);
            d.met.putAll(met);
            d.route.addAll(route);
            d.minute = minute;
            d.night = night;
            d.seed = seed;
            return d;
        }
    }

    private String tape = "";
    private Beach b = new Beach();
    private Day d = new Day();
    private final List<Day> past = new ArrayList<>();
    private final List<Day> future = new ArrayList<>();
    private final Map<Integer, Day> boxes = new HashMap<>();
    private List<Integer> lying = new ArrayList<>();
    private final List<Sight> sights = new ArrayList<>();
    private int time = 0;
    private int faultKind = 0;
    private int faultPlace = -1;

    // ---- the text

    private List<Token> tokens;
    private int next;

    private static List<Token> split(String text) {
        List<Token> found = new ArrayList<>();
        Matcher m = Pattern.compile("[a-z]+|[0-9]+[a-z]*|[ \n]+|(?s:.)").matcher(text);
        while (m.find()) {
            if (!m.group().matches("[ \n]+")) {
                found.add(new Token(m.group(), m.start()));
            }
        }
        found.add(new Token("", text.length()));
        return found;
    }

    private Token peek() {
        Token t = tokens.get(next);
        if (!t.text.matches("|[a-z]{1,8}|[0-9]{1,4}|[;()<>=+*/%-]")) {
            throw new Fault(1, t.place);
        }
        return t;
    }

    private Token take() {
        Token t = peek();
        next++;
        return t;
    }

    private boolean sees(String... texts) {
        return Arrays.asList(texts).contains(peek().text);
    }

    private void must(String text) {
        Token t = take();
        if (!t.text.equals(text)) {
            throw new Fault(2, t.place);
        }
    }

    private int number(int least, int most) {
        Token t = take();
        if (!t.text.matches("[0-9]+")) {
            throw new Fault(2, t.place);
        }
        int n = Integer.parseInt(t.text);
        if (n < least || n > most) {
            throw new Fault(4, t.place);
        }
        return n;
    }

    private Beach parse(String text) {
        tokens = split(text);
        next = 0;
        Beach n = new Beach();
        for (int line = 0; !sees(""); line++) {
            Token first = take();
            boolean stands = switch (first.text) {
                case "beach" -> line == 0;
                case "hut" -> n.huts.size() < 4;
                case "walker" -> n.people.size() < 5;
                case "tide" -> n.tide == null;
                case "wind" -> n.wind == null;
                case "draw" -> n.draw == null;
                default -> false;
            };
            if (!stands) {
                throw new Fault(2, first.place);
            }
            switch (first.text) {
                case "beach" -> {
                    n.columns = number(2, 5);
                    must("by");
                    n.rows = number(2, 5);
                }
                case "hut" -> {
                    int cell = cell(n);
                    Beach m = n;
                    if (n.huts.contains(cell) || n.people.stream().anyMatch(p -> p.cell == cell)) {
                        throw new Fault(3, tokens.get(next - 1).place);
                    }
                    m.huts.add(cell);
                }
                case "walker" -> n.people.add(person(n));
                case "tide" -> n.tide = either(0, n);
                case "wind" -> n.wind = number(0, 100);
                default -> n.draw = number(0, 999);
            }
            must(";");
        }
        return n;
    }

    private int cell(Beach n) {
        int column = number(0, n.columns - 1);
        int row = number(0, n.rows - 1);
        return row * n.columns + column;
    }

    private Person person(Beach n) {
        Token name = take();
        if (!name.text.matches("[a-z]+") || RESERVED.contains(name.text)) {
            throw new Fault(2, name.place);
        }
        if (n.people.stream().anyMatch(p -> p.name.equals(name.text))) {
            throw new Fault(3, name.place);
        }
        must("at");
        int cell = cell(n);
        if (n.huts.contains(cell)) {
            throw new Fault(3, tokens.get(next - 1).place);
        }
        must("stride");
        int stride = number(10, 99);
        int slip = 0;
        if (sees("slip")) {
            take();
            slip = number(0, 9);
        }
        return new Person(name.text, cell, stride, slip);
    }

    private static Tree join(Tree l, Tree r, IntBinaryOperator how) {
        return g -> how.applyAsInt(l.of(g), r.of(g));
    }

    private Tree either(int within, Beach n) {
        Tree t = both(within, n);
        while (sees("or")) {
            take();
            t = join(t, both(within, n), (x, y) -> x != 0 || y != 0 ? 1 : 0);
        }
        return t;
    }

    private Tree both(int within, Beach n) {
        Tree t = one(within, n);
        while (sees("and")) {
            take();
            t = join(t, one(within, n), (x, y) -> x != 0 && y != 0 ? 1 : 0);
        }
        return t;
    }

    private Tree one(int within, Beach n) {
        if (sees("not")) {
            Token not = take();
            if (within > 6) {
                throw new Fault(2, not.place);
            }
            Tree t = one(within + 1, n);
            return g -> t.of(g) == 0 ? 1 : 0;
        }
        Tree t = sum(within, n);
        if (sees("<", ">", "=")) {
            String sign = take().text;
            Tree r = sum(within, n);
            return join(t, r, (x, y) -> (sign.equals("<") ? x < y : sign.equals(">") ? x > y : x == y) ? 1 : 0);
        }
        return t;
    }

    private Tree sum(int within, Beach n) {
        Tree t = term(within, n);
        while (sees("+", "-")) {
            boolean plus = take().text.equals("+");
            t = join(t, term(within, n), (x, y) -> plus ? x + y : x - y);
        }
        return t;
    }

    private Tree term(int within, Beach n) {
        Tree t = unit(within, n);
        while (sees("*", "/", "%")) {
            String sign = take().text;
            t = join(t, unit(within, n), (x, y) -> sign.equals("*") ? x * y
                : y == 0 ? 0 : sign.equals("/") ? x / y : x % y);
        }
        return t;
    }

    private Tree unit(int within, Beach n) {
        Token t = take();
        int which = Arrays.asList("row", "column", "minute", "night", "trod").indexOf(t.text);
        boolean opens = t.text.equals("(");
        boolean isNumber = t.text.matches("[0-9]+");
        if (which < 0 && !opens && !isNumber || n.units >= 30 || opens && within > 6) {
            throw new Fault(2, t.place);
        }
        n.units++;
        if (opens) {
            Tree inner = either(within + 1, n);
            must(")");
            return inner;
        }
        if (isNumber) {
            int value = Integer.parseInt(t.text);
            return g -> value;
        }
        return g -> g[which];
    }

    // ---- helpers

    private int cells() {
        return b.columns * b.rows;
    }

    private boolean cellOk(int c) {
        return c >= 0 && c < cells();
    }

    private boolean ok(int w) {
        return w >= 0 && w < b.people.size();
    }

    private boolean two(int w, int o) {
        return ok(w) && ok(o) && w != o;
    }

    private boolean zeroOne(int what) {
        return what == 0 || what == 1;
    }

    private int dist(int a, int c) {
        return Math.abs(a % b.columns - c % b.columns) + Math.abs(a / b.columns - c / b.columns);
    }

    private boolean open(int c) {
        return cellOk(c) && !b.huts.contains(c);
    }

    /** Where a step, or staying, leads. */
    private List<Integer> nexts(int c) {
        List<Integer> found = new ArrayList<>();
        for (int o = 0; o < cells(); o++) {
            if (open(c) && open(o) && dist(c, o) <= 1) {
                found.add(o);
            }
        }
        return found;
    }

    private static int bits(Iterable<Integer> set) {
        int bits = 0;
        for (int i : set) {
            bits |= 1 << i;
        }
        return bits;
    }

    private boolean wet(int c, int minute) {
        int[] given = {c / b.columns, c % b.columns, minute, d.night, d.trod.getOrDefault(c, 0)};
        return b.tide != null && b.tide.of(given) != 0;
    }

    private Set<Integer> fresh(int w) {
        Set<Integer> found = new HashSet<>();
        d.tops.forEach((c, t) -> {
            if (t[0] == w) {
                found.add(c);
            }
        });
        return found;
    }

    private int topOf(int c) {
        return d.tops.containsKey(c) ? d.tops.get(c)[0] : -1;
    }

    private Set<Integer> around(int start, Set<Integer> within) {
        Set<Integer> seen = new HashSet<>();
        List<Integer> todo = new ArrayList<>();
        if (within.contains(start)) {
            todo.add(start);
            seen.add(start);
        }
        while (!todo.isEmpty()) {
            int c = todo.remove(todo.size() - 1);
            for (int o : within) {
                if (dist(c, o) == 1 && seen.add(o)) {
                    todo.add(o);
                }
            }
        }
        return seen;
    }

    private int partsIn(Set<Integer> set) {
        Set<Integer> left = new HashSet<>(set);
        int n = 0;
        while (!left.isEmpty()) {
            left.removeAll(around(left.iterator().next(), set));
            n++;
        }
        return n;
    }

    private Set<Integer> openCells() {
        Set<Integer> found = new HashSet<>();
        for (int c = 0; c < cells(); c++) {
            if (open(c)) {
                found.add(c);
            }
        }
        return found;
    }

    // ---- the calls

    public int feed(int a, int b2, int c, int d2, int e) {
        if (tape.length() + 20 > 1600) {
            return -1;
        }
        StringBuilder s = new StringBuilder(tape);
        for (int n : new int[] {a, b2, c, d2, e}) {
            for (int i = 3; i >= 0; i--) {
                s.append((char) (n >>> 8 * i & 255));
            }
        }
        tape = s.toString();
        return tape.length();
    }

    public int end(int n) {
        if (n < 0 || n > tape.length()) {
            return -1;
        }
        tape = tape.substring(0, n);
        return n;
    }

    public int beach() {
        try {
            b = parse(tape);
        } catch (Fault f) {
            faultKind = f.kind;
            faultPlace = f.place;
            return -1;
        }
        faultKind = 0;
        faultPlace = -1;
        tape = "";
        d = new Day();
        d.seed = b.draw == null ? 0 : b.draw;
        startDay();
        past.clear();
        future.clear();
        boxes.clear();
        lying = new ArrayList<>();
        sights.clear();
        return b.people.size();
    }

    private void startDay() {
        d.at.clear();
        d.trodBy.clear();
        for (Person p : b.people) {
            d.at.add(p.cell);
            d.trodBy.add(new HashSet<>());
        }
        d.trod.clear();
        d.over.clear();
        d.route = new ArrayList<>();
        d.minute = 0;
    }

    public int fault(int what) {
        return what == 0 ? faultKind : what == 1 ? faultPlace : -1;
    }

    public int walker(int w, int what) {
        if (!ok(w)) {
            return -1;
        }
        Person p = b.people.get(w);
        return switch (what) {
            case 0 -> d.at.get(w);
            case 1 -> p.cell;
            case 2 -> p.stride;
            case 3 -> p.slip;
            case 4 -> bits(d.trodBy.get(w));
            case 5 -> bits(fresh(w));
            default -> -1;
        };
    }

    public int sand(int c, int what) {
        if (!cellOk(c)) {
            return -2;
        }
        List<Integer> here = new ArrayList<>();
        for (int w = 0; w < b.people.size(); w++) {
            if (d.at.get(w) == c) {
                here.add(w);
            }
        }
        return switch (what) {
            case 0 -> topOf(c);
            case 1 -> d.tops.containsKey(c) ? d.tops.get(c)[1] : -1;
            case 2 -> d.trod.getOrDefault(c, 0);
            case 3 -> bits(here);
            case 4 -> b.huts.contains(c) ? 1 : 0;
            case 5 -> wet(c, d.minute) ? 1 : 0;
            default -> -2;
        };
    }

    public int over(int w, int o) {
        return two(w, o) ? d.over.getOrDefault(w + ">" + o, 0) : -1;
    }

    public int met(int w, int o) {
        return two(w, o) ? d.met.getOrDefault(Math.min(w, o) + "=" + Math.max(w, o), 0) : -1;
    }

    public int prints() {
        return d.tops.size();
    }

    private void act() {
        past.add(d.copy());
        if (past.size() > 40) {
            past.remove(0);
        }
        future.clear();
    }

    public int step(int w, int c) {
        if (!ok(w) || !open(c) || dist(d.at.get(w), c) > 1) {
            return -1;
        }
        act();
        d.at.set(w, c);
        int under = topOf(c);
        if (under >= 0 && under != w) {
            d.over.merge(w + ">" + under, 1, Integer::sum);
        }
        d.tops.put(c, new int[] {w, d.minute});
        d.trodBy.get(w).add(c);
        return d.trod.merge(c, 1, Integer::sum);
    }

    public int minute() {
        if (d.minute == 999) {
            return -1;
        }
        act();
        if (d.minute < 60) {
            d.route.add(new ArrayList<>(d.at));
        }
        for (int w = 0; w < d.at.size(); w++) {
            for (int o = w + 1; o < d.at.size(); o++) {
                if (d.at.get(w).equals(d.at.get(o))) {
                    d.met.merge(w + "=" + o, 1, Integer::sum);
                }
            }
        }
        d.minute++;
        int before = d.tops.size();
        d.tops.keySet().removeIf(c -> wet(c, d.minute));
        return before - d.tops.size();
    }

    public int night() {
        if (d.night == 999) {
            return -1;
        }
        act();
        int before = d.tops.size();
        for (int c = 0; c < cells(); c++) {
            if (d.tops.containsKey(c)) {
                d.seed = (d.seed * 137 + 71) % 1000;
                if (d.seed % 100 < (b.wind == null ? 0 : b.wind)) {
                    d.tops.remove(c);
                }
            }
        }
        startDay();
        d.night++;
        return before - d.tops.size();
    }

    public boolean undo() {
        if (past.isEmpty()) {
            return false;
        }
        future.add(d);
        d = past.remove(past.size() - 1);
        return true;
    }

    public boolean redo() {
        if (future.isEmpty()) {
            return false;
        }
        past.add(d);
        d = future.remove(future.size() - 1);
        return true;
    }

    private List<Integer> best;
    private int bestCost;
    private int bestCount;

    /** All ways without a cell twice, in their order by cells, so the first of the best is kept. */
    private void allWays(List<Integer> so, int goal, Set<Integer> dear, int cost) {
        if (best != null && cost > bestCost) {
            return;
        }
        int c = so.get(so.size() - 1);
        if (c == goal) {
            if (best == null || cost < bestCost || cost == bestCost && so.size() < best.size()) {
                best = new ArrayList<>(so);
                bestCost = cost;
                bestCount = 1;
            } else if (cost == bestCost && so.size() == best.size()) {
                bestCount++;
            }
            return;
        }
        if (best != null && cost == bestCost && so.size() >= best.size()) {
            return;
        }
        for (int o : nexts(c)) {
            if (!so.contains(o)) {
                so.add(o);
                allWays(so, goal, dear, cost + (dear.contains(o) ? 1 : 0));
                so.remove(so.size() - 1);
            }
        }
    }

    private boolean seek(int w, int c, Set<Integer> dear) {
        best = null;
        bestCount = 0;
        if (ok(w) && cellOk(c)) {
            allWays(new ArrayList<>(List.of(d.at.get(w))), c, dear, 0);
        }
        return best != null;
    }

    public int way(int w, int c) {
        boolean found = seek(w, c, Set.of());
        lying = found ? best : new ArrayList<>();
        return lying.size() - 1;
    }

    public int ways(int w, int c) {
        return seek(w, c, Set.of()) ? bestCount : -1;
    }

    public int sly(int w, int c, int what) {
        Set<Integer> dear = openCells();
        dear.removeIf(o -> topOf(o) >= 0 && topOf(o) != w);
        boolean found = zeroOne(what) && seek(w, c, dear);
        lying = found ? best : new ArrayList<>();
        return !found ? -1 : what == 0 ? bestCost : best.size() - 1;
    }

    private int away(int from, int to) {
        Set<Integer> reached = new HashSet<>(Set.of(from));
        for (int n = 0; n < 30; n++) {
            if (reached.contains(to)) {
                return n;
            }
            for (int c : new ArrayList<>(reached)) {
                reached.addAll(nexts(c));
            }
        }
        return 1000;
    }

    public int reach(int w, int n) {
        if (!ok(w) || n < 0 || n > 25) {
            return -1;
        }
        Set<Integer> found = openCells();
        found.removeIf(c -> away(d.at.get(w), c) > n);
        return bits(found);
    }

    public int parts() {
        return partsIn(openCells());
    }

    public int join(int w, int o, int what) {
        if (!two(w, o) || !zeroOne(what)) {
            return -1;
        }
        int most = 999;
        int where = -1;
        for (int c = 0; c < cells(); c++) {
            int minutes = open(c) ? Math.max(away(d.at.get(w), c), away(d.at.get(o), c)) : 999;
            if (minutes < most) {
                most = minutes;
                where = c;
            }
        }
        return where < 0 ? -1 : what == 0 ? most : where;
    }

    private int roundsFrom(int c, int goal, int n) {
        if (n == 0) {
            return c == goal ? 1 : 0;
        }
        int sum = 0;
        for (int o : nexts(c)) {
            sum += dist(o, goal) < n ? roundsFrom(o, goal, n - 1) : 0;
        }
        return sum;
    }

    public int rounds(int w, int n) {
        return !ok(w) || n < 0 || n > 9 ? -1 : roundsFrom(d.at.get(w), d.at.get(w), n);
    }

    public int guard(int c, int o, int what) {
        if (!open(c) || !open(o) || c == o || !zeroOne(what) || dist(c, o) == 1) {
            return -1;
        }
        int found = -1;
        for (int i = 0; i < 1 << cells(); i++) {
            boolean less = found < 0 || Integer.bitCount(i) < Integer.bitCount(found);
            if (Integer.bitCount(i) > 3 || !less || (i >> c & 1) + (i >> o & 1) > 0) {
                continue;
            }
            Set<Integer> left = openCells();
            int stood = 0;
            for (int g = 0; g < cells(); g++) {
                if ((i >> g & 1) != 0) {
                    stood += left.remove(g) ? 1 : 100;
                }
            }
            if (stood <= 3 && !around(c, left).contains(o)) {
                found = i;
            }
        }
        return found < 0 ? -1 : what == 0 ? Integer.bitCount(found) : found;
    }

    public int trail(int w) {
        return ok(w) ? partsIn(fresh(w)) : -1;
    }

    public int ghost(int w, int m) {
        return ok(w) && m >= 0 && m < d.route.size() ? d.route.get(m).get(w) : -1;
    }

    public int first(int w, int o) {
        for (int m = 0; two(w, o) && m < d.route.size(); m++) {
            if (d.route.get(m).get(w).equals(d.route.get(m).get(o))) {
                return m;
            }
        }
        return -1;
    }

    private long with(int w, int m) {
        return d.route.get(m).stream().filter(c -> c.equals(d.route.get(m).get(w))).count();
    }

    public int alone(int w) {
        int n = 0;
        for (int m = 0; ok(w) && m < d.route.size(); m++) {
            n += with(w, m) == 1 ? 1 : 0;
        }
        return ok(w) ? n : -1;
    }

    public int crowd(int what) {
        int when = -1;
        long most = -1;
        for (int m = 0; m < d.route.size(); m++) {
            for (int w = 0; w < b.people.size(); w++) {
                if (with(w, m) > most) {
                    most = with(w, m);
                    when = m;
                }
            }
        }
        return what == 0 ? when : what == 1 ? (int) most : -1;
    }

    private int fraction(long times, int n, int part) {
        long up = times;
        long low = 1;
        for (int i = 0; i < n; i++) {
            up *= 100 - (b.wind == null ? 0 : b.wind);
            low *= 100;
        }
        long g = java.math.BigInteger.valueOf(up).gcd(java.math.BigInteger.valueOf(low)).longValue();
        return (int) ((part == 0 ? up : low) / g);
    }

    public int remains(int n, int part) {
        return n < 0 || n > 3 || !zeroOne(part) ? -1 : fraction(prints(), n, part);
    }

    public int cover(int set, int what) {
        if (set < 0 || set >= 1 << cells() || !zeroOne(what)) {
            return -1;
        }
        for (int n = 0; n <= b.people.size(); n++) {
            for (int some = 0; some < 1 << b.people.size(); some++) {
                Set<Integer> together = new HashSet<>();
                for (int w = 0; w < b.people.size(); w++) {
                    if ((some >> w & 1) != 0) {
                        together.addAll(d.trodBy.get(w));
                    }
                }
                if (Integer.bitCount(some) == n && (set & ~bits(together)) == 0) {
                    return what == 0 ? n : some;
                }
            }
        }
        return -1;
    }

    private int permute(List<Integer> so) {
        if (so.size() == b.people.size()) {
            for (int i = 0; i < so.size(); i++) {
                for (int j = i + 1; j < so.size(); j++) {
                    if (over(so.get(i), so.get(j)) > 0) {
                        return 0;
                    }
                }
            }
            return 1;
        }
        int n = 0;
        for (int w = 0; w < b.people.size(); w++) {
            if (!so.contains(w)) {
                List<Integer> more = new ArrayList<>(so);
                more.add(w);
                n += permute(more);
            }
        }
        return n;
    }

    public int orders() {
        return permute(List.of());
    }

    private boolean mayBe(int w, int length) {
        Person p = b.people.get(w);
        return length >= p.stride - p.slip && length <= p.stride + p.slip;
    }

    public int may(int length) {
        List<Integer> found = new ArrayList<>();
        for (int w = 0; w < b.people.size(); w++) {
            if (mayBe(w, length)) {
                found.add(w);
            }
        }
        return length < 1 || length > 999 ? -1 : bits(found);
    }

    private int match(List<Integer> lengths, Set<Integer> used) {
        if (lengths.isEmpty()) {
            return 1;
        }
        int n = 0;
        for (int w = 0; w < b.people.size(); w++) {
            if (!used.contains(w) && mayBe(w, lengths.get(0))) {
                Set<Integer> more = new HashSet<>(used);
                more.add(w);
                n += match(lengths.subList(1, lengths.size()), more);
            }
        }
        return n;
    }

    public int matched(int a, int b2, int c, int d2) {
        List<Integer> lengths = new ArrayList<>(List.of(a, b2, c, d2));
        while (!lengths.isEmpty() && lengths.get(lengths.size() - 1) == 0) {
            lengths.remove(lengths.size() - 1);
        }
        if (lengths.isEmpty() || lengths.stream().anyMatch(l -> l < 1 || l > 999)) {
            return -1;
        }
        return match(lengths, Set.of());
    }

    public int catches(int w, int o) {
        if (!two(w, o)) {
            return -1;
        }
        int n = cells();
        int never = 100000;
        // His steps still needed: he is to step (0), the other one is to step (1).
        int[][][] v = new int[2][n][n];
        for (int[][] plane : v) {
            for (int p = 0; p < n; p++) {
                Arrays.fill(plane[p], never);
                plane[p][p] = 0;
            }
        }
        for (boolean changed = true; changed;) {
            changed = false;
            for (int p = 0; p < n; p++) {
                for (int e = 0; e < n; e++) {
                    if (p == e) {
                        continue;
                    }
                    int least = never;
                    for (int to : nexts(p)) {
                        least = Math.min(least, 1 + v[1][to][e]);
                    }
                    int most = -1;
                    for (int to : nexts(e)) {
                        most = Math.max(most, v[0][p][to]);
                    }
                    least = Math.min(least, never);
                    most = most < 0 ? never : most;
                    changed |= least != v[0][p][e] || most != v[1][p][e];
                    v[0][p][e] = least;
                    v[1][p][e] = most;
                }
            }
        }
        int value = v[0][d.at.get(w)][d.at.get(o)];
        return value >= never ? -1 : value;
    }

    public int lasts(int n, int part) {
        return n < 0 || n > 4 || !zeroOne(part) ? -1 : fraction(1, n, part);
    }

    public int tides(int n) {
        if (n < 0 || n > 60) {
            return -1;
        }
        Set<Integer> left = new HashSet<>(d.tops.keySet());
        for (int i = 1; i <= n; i++) {
            int minute = d.minute + i;
            left.removeIf(c -> wet(c, minute));
        }
        return left.size();
    }

    public int boldest() {
        int found = b.people.isEmpty() ? -1 : 0;
        for (int w = 1; w < b.people.size(); w++) {
            found = fresh(w).size() > fresh(found).size() ? w : found;
        }
        return found;
    }

    public int lies(int i) {
        return i >= 0 && i < lying.size() ? lying.get(i) : -1;
    }

    private int tell(int m, Set<Integer> cells, boolean is) {
        if (m < 0 || m > 7 || cells.isEmpty() || sights.size() == 30) {
            return -1;
        }
        Set<Integer> where = new HashSet<>();
        for (int c = 0; c < cells(); c++) {
            if (cells.contains(c) == is) {
                where.add(c);
            }
        }
        sights.add(new Sight(m, where, time, new int[] {Integer.MIN_VALUE}));
        return sights.size() - 1;
    }

    public int seen(int m, int c, boolean is) {
        return cellOk(c) ? tell(m, Set.of(c), is) : -1;
    }

    public int inRow(int m, int row, boolean is) {
        Set<Integer> cells = new HashSet<>();
        for (int c = 0; c < cells(); c++) {
            if (c / b.columns == row) {
                cells.add(c);
            }
        }
        return tell(m, cells, is);
    }

    public boolean untell(int s) {
        if (s < 0 || s >= sights.size() || sights.get(s).untold[0] != Integer.MIN_VALUE) {
            return false;
        }
        sights.get(s).untold[0] = time;
        return true;
    }

    public int later(int by) {
        if (by < 0 || by > 1000 || time + by > 100000) {
            return -1;
        }
        time += by;
        return time;
    }

    /** How many paths go through each cell at each minute, by going all of them. */
    private int[][] walkAll(int k) {
        int[][] through = new int[8][25];
        List<Set<Integer>> may = new ArrayList<>();
        for (int m = 0; m < 8; m++) {
            Set<Integer> cells = openCells();
            for (Sight s : sights) {
                boolean untold = s.untold[0] != Integer.MIN_VALUE && s.untold[0] <= k;
                if (s.minute == m && s.told <= k && !untold) {
                    cells.retainAll(s.cells);
                }
            }
            may.add(cells);
        }
        int[] path = new int[8];
        for (int c = 0; c < cells(); c++) {
            walk(path, 0, c, may, through);
        }
        return through;
    }

    private void walk(int[] path, int m, int c, List<Set<Integer>> may, int[][] through) {
        if (!may.get(m).contains(c)) {
            return;
        }
        path[m] = c;
        if (m == 7) {
            for (int i = 0; i < 8; i++) {
                through[i][path[i]]++;
            }
            return;
        }
        for (int o : nexts(c)) {
            walk(path, m + 1, o, may, through);
        }
    }

    public int paths(int k) {
        return Arrays.stream(walkAll(k)[0]).sum();
    }

    public int sure(int m, int k) {
        if (m < 0 || m > 7) {
            return -1;
        }
        int[] at = walkAll(k)[m];
        int found = -1;
        for (int c = 0; c < 25; c++) {
            if (at[c] > 0) {
                found = found == -1 ? c : -2;
            }
        }
        return found;
    }

    public int ask(int what, int k) {
        int[][] through = walkAll(k);
        int minute = -1;
        int fewest = Integer.MAX_VALUE;
        for (int m = 0; m < 8; m++) {
            int most = Arrays.stream(through[m]).max().getAsInt();
            if (most < fewest) {
                fewest = most;
                minute = m;
            }
        }
        return fewest == 0 ? -1 : what == 0 ? minute : what == 1 ? fewest : -1;
    }

    public int image(int box) {
        if (box < 0 || box > 2) {
            return -1;
        }
        boxes.put(box, d.copy());
        return d.minute;
    }

    public int back(int box) {
        if (!boxes.containsKey(box)) {
            return -1;
        }
        d = boxes.get(box).copy();
        past.clear();
        future.clear();
        return d.minute;
    }

    public int about(int what) {
        int[] all = {b.people.size(), b.columns, b.rows, b.huts.size(), d.minute, d.night, d.seed, past.size(),
            future.size(), sights.size(), time, tape.length(), b.units, lying.size()};
        return what >= 0 && what < all.length ? all[what] : -1;
    }
}
