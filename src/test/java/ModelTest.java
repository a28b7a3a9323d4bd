import java.lang.reflect.Method;
import java.util.ArrayList;
import java.util.Arrays;
import java.util.Comparator;
import java.util.List;
import java.util.Random;

/** All promises: runs of calls by told draws, each answer compared with the model's. */
public final class ModelTest {
    private static final int RUNS = 160;
    private static final int TEXTS = 6000;
    private final Check check = new Check("ModelTest");
    private final Random random;
    private SandNights x = new SandNights();
    private Model model = new Model();

    private ModelTest(long seed) {
        random = new Random(seed);
    }

    public static void main(String[] args) throws Exception {
        long seed = args.length > 0 ? Long.parseLong(args[0]) : 20261118L;
        ModelTest test = new ModelTest(seed);
        test.texts();
        for (int run = 0; run < RUNS && test.check.wrong() < 20; run++) {
            test.run();
        }
        test.check.finish();
    }

    private int below(int n) {
        return random.nextInt(n);
    }

    private String pick(String words) {
        String[] all = words.split(" ");
        return all[below(all.length)];
    }

    // ---- texts

    private String formula(int depth) {
        int kind = below(depth > 3 ? 3 : 9);
        switch (kind) {
            case 0:
                return "" + below(random.nextBoolean() ? 5 : 10000);
            case 1:
            case 2:
                return pick("row column minute night trod");
            case 3:
                return "not " + formula(depth + 1);
            case 4:
                return "(" + formula(depth + 1) + ")";
            default:
                return formula(depth + 1) + " " + pick("+ - * / % < > = and or") + " " + formula(depth + 1);
        }
    }

    /** Mostly right by its relations; what is not is a fault that both must find. */
    private String tide() {
        return switch (below(5)) {
            case 0 -> "tide " + formula(0) + ";";
            case 1 -> "tide minute " + pick("> < =") + " " + below(6) + " and row " + pick("> < =") + " " + below(5) + ";";
            case 2 -> "tide (row + column + minute + night) % " + (2 + below(7)) + " = 0;";
            case 3 -> "tide trod > " + below(4) + " or minute % 7 = " + below(7) + ";";
            default -> "";
        };
    }

    private String text(int largest) {
        int columns = 2 + below(largest - 1);
        int rows = 2 + below(largest - 1);
        List<String> lines = new ArrayList<>();
        boolean sized = below(10) > 0 || largest < 4;
        for (int i = below(5); i > 0; i--) {
            lines.add("hut " + below(columns) + " " + below(rows) + ";");
        }
        int walkers = below(6);
        for (int i = 0; i < walkers; i++) {
            String slip = random.nextBoolean() ? " slip " + below(10) : "";
            String name = below(20) == 0 ? pick("ann one abcdefgh") : "w" + (char) ('a' + i);
            lines.add("walker " + name + " at " + below(columns) + " " + below(rows) + " stride " + (10 + below(12))
                + slip + ";");
        }
        lines.add(tide());
        lines.add(random.nextBoolean() ? "wind " + below(101) + ";" : "");
        lines.add(random.nextBoolean() ? "draw " + below(1000) + ";" : "");
        java.util.Collections.shuffle(lines, random);
        return (sized ? "beach " + columns + " by " + rows + ";" : "") + String.join(pick(",\n").replace(",", ""), lines);
    }

    private String spoilt(String text) {
        StringBuilder s = new StringBuilder(text);
        for (int i = below(3); i >= 0; i--) {
            int at = below(s.length() + 1);
            switch (below(4)) {
                case 0 -> s.insert(at, pick("( ) not ; hut 1 12345 abcdefghi # and or + < wind tide beach 9 x"));
                case 1 -> s.insert(at, " " + pick("( ) not ; hut walker 1 7 99 row beach tide draw by at") + " ");
                case 2 -> s.delete(at, Math.min(s.length(), at + 1 + below(4)));
                default -> s.setLength(at);
            }
        }
        return s.toString();
    }

    private void tell(String text) {
        String told = text.length() > 1580 ? text.substring(0, 1580) : text;
        x.end(0);
        model.end(0);
        for (int i = 0; i < told.length(); i += 20) {
            int[] w = new int[5];
            for (int j = 0; j < 20; j++) {
                w[j / 4] = w[j / 4] << 8 | (i + j < told.length() ? told.charAt(i + j) : 32);
            }
            check.due("feed", x.feed(w[0], w[1], w[2], w[3], w[4]), model.feed(w[0], w[1], w[2], w[3], w[4]));
        }
        check.due("end", x.end(told.length()), model.end(told.length()));
        check.due("beach() of " + told, x.beach(), model.beach());
        check.due("fault(0) of " + told, x.fault(0), model.fault(0));
        check.due("fault(1) of " + told, x.fault(1), model.fault(1));
        for (int what = 0; what < 14; what++) {
            check.due("about(" + what + ") of " + told, x.about(what), model.about(what));
        }
    }

    private void texts() {
        int fine = 0;
        for (int i = 0; i < TEXTS && check.wrong() < 20; i++) {
            String text = text(5);
            tell(i % 3 == 0 ? text : spoilt(text));
            fine += x.fault(0) == 0 ? 1 : 0;
            for (int cell = 0; cell < 25; cell++) {
                check.due("sand(" + cell + ", 5) of " + text, x.sand(cell, 5), model.sand(cell, 5));
            }
        }
        System.out.println("ModelTest: " + fine + " of " + TEXTS + " texts without a fault");
    }

    // ---- runs

    private int walkerDraw() {
        return below(12) == 0 ? below(9) - 2 : below(Math.max(1, x.about(0)));
    }

    private int cellDraw() {
        return below(15) == 0 ? below(30) - 2 : below(x.about(1) * x.about(2));
    }

    private int what(int most) {
        return below(most + 3) - 1;
    }

    /** Any numbers at all, of all sizes. */
    private Object[] wild(Method call) {
        Class<?>[] types = call.getParameterTypes();
        Object[] given = new Object[types.length];
        for (int i = 0; i < types.length; i++) {
            int number = random.nextInt() >> below(32);
            given[i] = types[i] == boolean.class ? (Object) random.nextBoolean() : (Object) number;
        }
        return given;
    }

    private Object[] draw(String name) {
        return switch (name) {
            case "walker" -> new Object[] {walkerDraw(), what(5)};
            case "sand" -> new Object[] {cellDraw(), what(5)};
            case "over", "met", "first", "catches" -> new Object[] {walkerDraw(), walkerDraw()};
            case "join" -> new Object[] {walkerDraw(), walkerDraw(), what(1)};
            case "way", "ways" -> new Object[] {walkerDraw(), cellDraw()};
            case "step" -> stepDraw();
            case "sly" -> new Object[] {walkerDraw(), cellDraw(), what(1)};
            case "reach" -> new Object[] {walkerDraw(), below(30) - 2};
            case "rounds" -> new Object[] {walkerDraw(), below(9) - 1};
            case "guard" -> new Object[] {cellDraw(), cellDraw(), what(1)};
            case "trail", "alone" -> new Object[] {walkerDraw()};
            case "ghost" -> new Object[] {walkerDraw(), below(x.about(4) + 3) - 1};
            case "crowd", "fault" -> new Object[] {what(1)};
            case "remains", "lasts" -> new Object[] {below(7) - 1, what(1)};
            case "cover" -> new Object[] {coverDraw(), what(1)};
            case "may" -> new Object[] {lengthDraw()};
            case "matched" -> new Object[] {lengthDraw(), lengthDraw(), maybe(lengthDraw()), maybe(lengthDraw())};
            case "tides" -> new Object[] {below(65) - 2};
            case "lies" -> new Object[] {below(10) - 1};
            case "seen" -> new Object[] {what(7), cellDraw(), below(4) == 0};
            case "inRow" -> new Object[] {what(7), below(x.about(2) + 2) - 1, below(3) == 0};
            case "untell" -> new Object[] {below(x.about(9) + 2) - 1};
            case "later" -> new Object[] {below(20) == 0 ? below(1200) - 100 : below(3)};
            case "paths" -> new Object[] {kDraw()};
            case "sure" -> new Object[] {what(7), kDraw()};
            case "ask" -> new Object[] {what(1), kDraw()};
            case "image", "back" -> new Object[] {what(2)};
            case "about" -> new Object[] {what(13)};
            default -> new Object[0];
        };
    }

    private Object[] stepDraw() {
        int walker = walkerDraw();
        int cell = x.walker(walker, 0);
        int columns = x.about(1);
        int[] by = {0, 1, -1, columns, -columns};
        return new Object[] {walker, cell < 0 || below(12) == 0 ? cellDraw() : cell + by[below(5)]};
    }

    private int coverDraw() {
        int set = 0;
        for (int i = below(4); i > 0; i--) {
            set |= below(4) > 0 ? x.walker(walkerDraw(), 4) & random.nextInt() : 1 << cellDraw() % 25;
        }
        return set;
    }

    private int lengthDraw() {
        return below(30) == 0 ? below(2100) - 1000 : 8 + below(16);
    }

    private int maybe(int length) {
        return random.nextBoolean() ? length : 0;
    }

    private int kDraw() {
        return below(10) == 0 ? random.nextInt() : Math.max(0, x.about(10) - below(6));
    }

    private static List<Method> calls() {
        List<Method> calls = new ArrayList<>();
        for (Method m : SandNights.class.getDeclaredMethods()) {
            boolean told = List.of("feed", "end", "beach").contains(m.getName());
            if (java.lang.reflect.Modifier.isPublic(m.getModifiers()) && !told) {
                calls.add(m);
            }
        }
        calls.sort(Comparator.comparing(Method::getName));
        return calls;
    }

    private static long number(Object answer) {
        return answer instanceof Boolean b ? b ? 1 : 0 : (Integer) answer;
    }

    private void both(Method call) throws Exception {
        Object[] given = below(12) == 0 ? wild(call) : draw(call.getName());
        Method other = Model.class.getMethod(call.getName(), call.getParameterTypes());
        Object want = other.invoke(model, given);
        check.due(call.getName() + Arrays.toString(given), number(call.invoke(x, given)), number(want));
    }

    /** A run goes on to the 512th call or so; a wide beach is asked less, since the model tries all ways. */
    private void run() throws Exception {
        x = new SandNights();
        model = new Model();
        boolean wide = below(8) == 0;
        int tries = 0;
        do {
            tell(text(wide ? 5 : 3));
            tries++;
        } while ((x.fault(0) != 0 || x.about(0) == 0) && tries < 30);
        List<Method> calls = calls();
        for (int i = 0; i < 450 && check.wrong() < 20; i++) {
            Method call = calls.get(below(calls.size()));
            String name = call.getName();
            boolean dear = List.of("paths", "sure", "ask", "guard", "ways", "way", "sly", "rounds").contains(name);
            if (dear && wide && below(40) > 0) {
                continue;
            }
            if (below(2) == 0) {
                name = pick("step step step step step minute undo redo night");
                for (Method m : calls) {
                    call = m.getName().equals(name) ? m : call;
                }
            }
            both(call);
        }
    }
}
