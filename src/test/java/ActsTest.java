/** Part 2 of the terms, promises 6 to 15 and 46 to 48: what is on the sand, acts, undone and redone, images. */
public final class ActsTest {
    private static final Check CHECK = new Check("ActsTest");
    private static final String THREE =
        "beach 3 by 3;hut 1 1;walker a at 0 0 stride 30 slip 2;walker b at 2 0 stride 33;walker c at 0 0 stride 40;";
    private static final int[] NO_WALKERS = {-1, 3, 5, Integer.MAX_VALUE, Integer.MIN_VALUE};
    private static final int[] NO_CELLS = {-1, 9, 25, 32, Integer.MAX_VALUE, Integer.MIN_VALUE};

    public static void main(String[] args) {
        cells();
        atFirst();
        routes();
        steps();
        minutes();
        tides();
        formulas();
        nights();
        winds();
        afterNight();
        undone();
        kept();
        walker();
        sand();
        overAndMet();
        prints();
        step();
        minute();
        night();
        undoAndRedo();
        image();
        back();
        about();
        CHECK.finish();
    }

    private static boolean areBeside(int cell, int other, int columns) {
        return Math.abs(cell / columns - other / columns) + Math.abs(cell % columns - other % columns) == 1;
    }

    private static void cells() {
        CHECK.by("Terms", "CELLS are numbered: row * COLUMNS + column.");
        for (int columns = 2; columns <= 5; columns++) {
            for (int rows = 2; rows <= 5; rows++) {
                String size = "beach " + columns + " by " + rows + ";";
                SandNights x = Check.told(size + "walker a at 1 " + (rows - 1) + " stride 10;"
                    + "tide row = 1 and column = 0;");
                CHECK.due("a WALKER's CELL, " + size, x.walker(0, 1), (rows - 1) * columns + 1);
                for (int cell = 0; cell < columns * rows; cell++) {
                    CHECK.due("tide in CELL " + cell + ", " + size, x.sand(cell, 5), cell == columns ? 1 : 0);
                }
            }
        }
        CHECK.by("Terms", "BESIDE are CELLS one column, or one row, from one another");
        for (int columns = 2; columns <= 5; columns++) {
            for (int rows = 2; rows <= 5; rows++) {
                for (int from = 0; from < columns * rows; from++) {
                    String size = "beach " + columns + " by " + rows + ";";
                    SandNights x = Check.told(size + "walker a at " + from % columns + " " + from / columns
                        + " stride 10;");
                    for (int to = 0; to < columns * rows; to++) {
                        boolean fine = to == from || areBeside(from, to, columns);
                        CHECK.due(size + " from " + from + " to " + to, x.step(0, to), fine ? 1 : -1);
                        x.undo();
                    }
                }
            }
        }
        CHECK.by("Terms", "steps go to one BESIDE without a hut, or stay");
        SandNights x = Check.told(THREE);
        x.step(0, 3);
        CHECK.due("into a hut", x.step(0, 4), -1);
        CHECK.due("staying", x.step(0, 3), 2);
        CHECK.due("past it", x.step(0, 6), 1);
    }

    private static void atFirst() {
        CHECK.by("Terms", "(the WALKER who trod it last; none at first)");
        SandNights x = Check.told(THREE);
        for (int cell = 0; cell < 9; cell++) {
            CHECK.due("TOP of " + cell, x.sand(cell, 0), -1);
        }
        CHECK.by("Terms", "how often it was TROD today (0 at first)");
        for (int cell = 0; cell < 9; cell++) {
            CHECK.due("TROD " + cell, x.sand(cell, 2), 0);
        }
        CHECK.by("Terms", "The beginning lays no print.");
        CHECK.due("sand(0, 3)", x.sand(0, 3), 5);
        CHECK.due("prints()", x.prints(), 0);
        CHECK.due("walker(0, 4)", x.walker(0, 4), 0);
        CHECK.due("walker(0, 5)", x.walker(0, 5), 0);
        x.night();
        CHECK.due("prints() of another day", x.prints(), 0);
        CHECK.due("minute()", x.minute(), 0);
        CHECK.due("prints() of another minute", x.prints(), 0);
    }

    private static void routes() {
        CHECK.by("Terms",
            "at each of the minutes 0 .. 59 of today behind which a MINUTE went by the CELL where he was then");
        SandNights x = Check.told("beach 5 by 5;walker a at 0 0 stride 10;");
        CHECK.due("ghost(0, 0) at first", x.ghost(0, 0), -1);
        for (int minute = 0; minute < 63; minute++) {
            x.step(0, minute % 2);
            x.step(0, minute % 2);
            CHECK.due("a minute that goes on", x.ghost(0, minute), -1);
            x.minute();
            CHECK.due("ghost(0, " + minute + ")", x.ghost(0, minute), minute < 60 ? minute % 2 : -1);
        }
        for (int minute = 0; minute < 60; minute++) {
            CHECK.due("ghost(0, " + minute + ") later", x.ghost(0, minute), minute % 2);
        }
    }

    private static void steps() {
        CHECK.by("Terms", "a STEP of a WALKER to a CELL BESIDE his, or to his own: he is there");
        SandNights there = Check.told(THREE);
        for (int cell : new int[] {0, 1, 2, 5, 8, 7, 6, 3, 3, 0}) {
            there.step(0, cell);
            CHECK.due("he is there", there.walker(0, 0), cell);
            CHECK.due("he is there", there.sand(cell, 3) & 1, 1);
        }
        CHECK.due("another one is not", there.walker(2, 0), 0);
        CHECK.by("Terms", "Each WALKER has the CELLS that he TROD today");
        CHECK.due("all but the hut", there.walker(0, 4), 511 - 16);
        CHECK.due("another one", there.walker(1, 4), 0);
        there.night();
        CHECK.due("another day", there.walker(0, 4), 0);
        CHECK.by("Terms", "if the TOP there is another one, he lies OVER that one once more today");
        SandNights x = Check.told(THREE);
        x.step(0, 0);
        x.step(0, 0);
        CHECK.due("nobody under himself", x.orders(), 6);
        x.step(2, 0);
        CHECK.due("over(2, 0)", x.over(2, 0), 1);
        CHECK.due("over(0, 2)", x.over(0, 2), 0);
        x.step(2, 0);
        CHECK.due("his own now", x.over(2, 0), 1);
        x.step(0, 0);
        x.step(2, 0);
        CHECK.due("once more", x.over(2, 0), 2);
        CHECK.due("the other one, too", x.over(0, 2), 1);
        x.step(1, 1);
        CHECK.due("where there is none", x.over(1, 0) + x.over(1, 2), 0);
        x.step(0, 1);
        x.night();
        CHECK.due("over(0, 1)", x.over(0, 1), 0);
        x.step(2, 1);
        CHECK.due("over a print of another day", x.over(2, 0), 1);
        CHECK.due("not over what lies below it", x.over(2, 1), 0);
        CHECK.by("Terms", "he is the TOP there then, at this minute; it is TROD once more");
        x = Check.told(THREE);
        x.minute();
        x.minute();
        x.step(0, 1);
        CHECK.due("TOP", x.sand(1, 0), 0);
        CHECK.due("the minute", x.sand(1, 1), 2);
        CHECK.due("TROD", x.sand(1, 2), 1);
        x.minute();
        x.step(1, 1);
        CHECK.due("TOP", x.sand(1, 0), 1);
        CHECK.due("the minute", x.sand(1, 1), 3);
        CHECK.due("TROD", x.sand(1, 2), 2);
        x.minute();
        x.step(1, 1);
        CHECK.due("TOP", x.sand(1, 0), 1);
        CHECK.due("the minute", x.sand(1, 1), 4);
        CHECK.due("TROD", x.sand(1, 2), 3);
        CHECK.due("both TROD it", x.walker(0, 4) & x.walker(1, 4), 2);
    }

    private static void minutes() {
        CHECK.by("Terms", "ROUTES have where all are");
        SandNights all = Check.told(THREE);
        all.step(1, 5);
        all.minute();
        CHECK.due("ghost(0, 0)", all.ghost(0, 0), 0);
        CHECK.due("ghost(1, 0)", all.ghost(1, 0), 5);
        CHECK.due("ghost(2, 0)", all.ghost(2, 0), 0);
        CHECK.by("Terms", "two WALKERS who are in one CELL MET once more (the minute is over)");
        SandNights x = Check.told("beach 2 by 2;walker a at 0 0 stride 10;walker b at 0 0 stride 10;"
            + "walker c at 1 1 stride 10;walker d at 0 0 stride 10;");
        CHECK.due("met(0, 1) at first", x.met(0, 1), 0);
        x.step(2, 1);
        x.step(2, 0);
        x.step(2, 1);
        CHECK.due("who came by did not", x.met(0, 2), 0);
        x.minute();
        int[][] due = {{0, 1, 1}, {0, 3, 1}, {1, 3, 1}, {0, 2, 0}, {1, 2, 0}, {2, 3, 0}};
        for (int[] row : due) {
            CHECK.due("met(" + row[0] + ", " + row[1] + ")", x.met(row[0], row[1]), row[2]);
            CHECK.due("met(" + row[1] + ", " + row[0] + ")", x.met(row[1], row[0]), row[2]);
        }
        x.step(0, 1);
        x.minute();
        CHECK.due("once more", x.met(1, 3), 2);
        CHECK.due("no more", x.met(0, 1), 1);
        CHECK.due("for the first time", x.met(0, 2), 1);
        CHECK.by("Terms", "the minute (0 at first) is one more");
        x = Check.told(THREE);
        CHECK.due("about(4)", x.about(4), 0);
        x.minute();
        CHECK.due("about(4)", x.about(4), 1);
        x.minute();
        CHECK.due("about(4)", x.about(4), 2);
    }

    private static void tides() {
        CHECK.by("Terms",
            "then in each CELL for which what comes of tide (0, if it is not told) is not 0, there is no TOP any more");
        SandNights x = Check.told("beach 3 by 2;walker a at 0 0 stride 10;tide column - 1;");
        x.step(0, 0);
        x.step(0, 1);
        x.step(0, 2);
        CHECK.due("below 0 and above 0", x.minute(), 2);
        CHECK.due("of 0", x.sand(1, 0), 0);
        CHECK.due("of 0 - 1", x.sand(0, 0), -1);
        CHECK.due("of 1", x.sand(2, 0), -1);
        CHECK.due("TROD stays", x.sand(0, 2), 1);
        CHECK.due("what he TROD stays", x.walker(0, 4), 7);
        CHECK.due("no minute without a TOP", x.sand(0, 1), -1);
        CHECK.due("taken already", x.minute(), 0);
        x = Check.told("walker a at 0 0 stride 10;");
        x.step(0, 0);
        CHECK.due("without a tide", x.minute(), 0);
        CHECK.due("sand(0, 5)", x.sand(0, 5), 0);
        CHECK.by("Terms", "minute (the new one)");
        x = Check.told("walker a at 0 0 stride 10;tide minute = 2;");
        x.step(0, 0);
        CHECK.due("minute 0 to 1", x.minute(), 0);
        CHECK.due("minute 1 to 2", x.minute(), 1);
        x.step(0, 0);
        CHECK.due("minute 2 to 3", x.minute(), 0);
        CHECK.by("Terms", "night (0 at first)");
        x = Check.told("walker a at 0 0 stride 10;tide night = 1;");
        x.step(0, 0);
        CHECK.due("night 0", x.minute(), 0);
        CHECK.due("a NIGHT brings no tide", x.night(), 0);
        CHECK.due("it is there", x.sand(0, 0), 0);
        CHECK.due("night 1", x.minute(), 1);
        x.step(0, 0);
        x.night();
        CHECK.due("night 2", x.minute(), 0);
        CHECK.by("Terms", "trod (how often it was today");
        x = Check.told("walker a at 0 0 stride 10;tide trod = 2;");
        x.step(0, 0);
        CHECK.due("TROD once", x.minute(), 0);
        x.step(0, 0);
        CHECK.due("TROD twice", x.minute(), 1);
        x.step(0, 0);
        CHECK.due("TROD three times", x.minute(), 0);
        x.night();
        CHECK.due("not TROD today", x.minute(), 0);
        x.step(0, 0);
        x.step(0, 0);
        CHECK.due("TROD twice today", x.minute(), 1);
    }

    /** What comes of a formula, by the cell at column 1, row 2, trod three times, at minute 4 of night 1. */
    private static void wet(String formula, int due) {
        SandNights x = Check.told("beach 3 by 4;walker a at 1 2 stride 10;tide " + formula + ";");
        x.night();
        x.step(0, 7);
        x.step(0, 7);
        x.step(0, 7);
        for (int i = 0; i < 4; i++) {
            x.minute();
        }
        CHECK.due(formula, x.sand(7, 5), due);
    }

    private static void allWet(String... formulas) {
        for (String formula : formulas) {
            wet(formula, 1);
        }
    }

    private static void formulas() {
        CHECK.by("Terms", "by row, column, minute (the new one), night (0 at first), trod");
        allWet("row = 2", "column = 1", "minute = 4", "night = 1", "trod = 3", "9999 - 9998", "9999 = 9999", "0001");
        for (String formula : "0/row = 1/column = 2/minute = 3/night = 0/trod = 2/row - 2".split("/")) {
            wet(formula, 0);
        }
        CHECK.by("Terms", "ints, wrapping");
        String least = "8192 * 8192 * 32";
        allWet(least + " < 0", least + " - 1 > 0", "0 - (" + least + ") < 0", "(" + least + " - 1) * 2 = 0 - 2",
            "9999 * 9999 * 30 < 0", "(" + least + ") / (0 - 1) = " + least, "not (" + least + ") % (0 - 1)");
        wet("8192 * 8192 * 64", 0);
        CHECK.by("Terms", "/ cut, % its rest");
        allWet("7 / 2 = 3", "(0 - 7) / 2 = 0 - 3", "7 / (0 - 2) = 0 - 3", "(0 - 7) / (0 - 2) = 3", "7 % 4 = 3",
            "(0 - 7) % 2 = 0 - 1", "7 % (0 - 2) = 1", "(0 - 7) % (0 - 4) = 0 - 3", "not 1 / 2");
        CHECK.by("Terms", "both by 0: 0");
        allWet("(1 / 0) = 0", "(5 % 0) = 0", "not (1 / 0)", "not 0 / 0", "not 0 % 0", "7 + 1 / (row - 2) = 7");
        wet("1 / 0", 0);
        wet("5 % 0", 0);
        CHECK.by("Terms", "relations, and, or, not are 1 or 0, of what is not 0");
        allWet("(3 > 2) = 1", "(3 < 2) = 0", "(3 < 3) = 0", "(3 > 3) = 0", "(2 < 3) = 1", "(3 = 3) = 1", "(3 = 2) = 0",
            "(0 - 1 < 0) = 1", "(7 and 9) = 1", "((0 - 1) and 2) = 1", "(2 and 4) = 1", "(0 and 9) = 0",
            "(9 and 0) = 0",
            "(7 or 0) = 1", "(0 or 7) = 1", "(7 or 9) = 1", "(0 or 0) = 0", "(not 9) = 0", "(not (0 - 1)) = 0",
            "(not 0) = 1", "(not not 5) = 1");
        CHECK.by("Terms", "e = both {or both}.  both = one {and one}.  one = not one | sum [(< | > | =) sum].");
        allWet("2 + 3 * 4 = 14", "10 - 3 - 2 = 5", "100 / 10 / 5 = 2", "7 % 3 * 2 = 2", "2 * 7 % 3 = 2",
            "(2 + 3) * 4 = 20", "1 or 0 and 0", "not 0 or 1", "not 1 < 0", "not 1 = 2", "not 2 + 3 = 4",
            "0 and 0 or 1", "9 - 2 * 3 + 1 = 4");
        wet("not 1 and 0", 0);
        wet("0 and 1 or 0", 0);
        wet("(1 or 0) and 0", 0);
        wet("not (1 or 0)", 0);
    }

    private static void nights() {
        CHECK.by("Terms", "CELL by CELL, where there is a TOP, the SEED (draw, at first) becomes its 137-fold and 71"
            + " more, modulo 1,000");
        SandNights x = Check.told("beach 2 by 2;walker a at 0 0 stride 10;wind 40;draw 7;");
        CHECK.due("about(6) at first", x.about(6), 7);
        x.night();
        CHECK.due("without a TOP", x.about(6), 7);
        x.step(0, 0);
        x.step(0, 1);
        x.step(0, 3);
        // The seed: 7 -> 30 (taken) -> 181 -> 868.
        CHECK.due("night()", x.night(), 1);
        CHECK.due("about(6)", x.about(6), 868);
        CHECK.due("sand(0, 0)", x.sand(0, 0), -1);
        CHECK.due("sand(1, 0)", x.sand(1, 0), 0);
        CHECK.due("sand(2, 0)", x.sand(2, 0), -1);
        CHECK.due("sand(3, 0)", x.sand(3, 0), 0);
        x = Check.told("walker a at 0 0 stride 10;draw 9;");
        x.step(0, 0);
        CHECK.due("without wind", x.night(), 0);
        CHECK.due("the SEED goes on all the same", x.about(6), 304);
        CHECK.due("the print is there", x.sand(0, 0), 0);
        x = Check.told("walker a at 0 0 stride 10;draw 999;");
        x.step(0, 0);
        x.night();
        CHECK.due("from 999", x.about(6), 934);
        CHECK.by("Terms", "if its rest by 100 is less than wind tells, there is none any more");
        for (int wind = 29; wind < 33; wind++) {
            x = Check.told("walker a at 0 0 stride 10;draw 7;wind " + wind + ";");
            x.step(0, 0);
            CHECK.due("seed 30, wind " + wind, x.night(), wind > 30 ? 1 : 0);
            x = Check.told("walker a at 0 0 stride 10;draw 77;wind " + (wind - 10) + ";");
            x.step(0, 0);
            CHECK.due("seed 620, wind " + (wind - 10), x.night(), wind - 10 > 20 ? 1 : 0);
        }
        int[][] edges = {{17, 0, 0}, {17, 1, 1}, {44, 99, 0}, {44, 100, 1}};
        for (int[] edge : edges) {
            x = Check.told("walker a at 0 0 stride 10;draw " + edge[0] + ";wind " + edge[1] + ";");
            x.step(0, 0);
            CHECK.due("seed " + (edge[0] == 17 ? 400 : 99) + ", wind " + edge[1], x.night(), edge[2]);
        }
        x = Check.told("walker a at 0 0 stride 10;draw 4;wind 100;");
        x.step(0, 0);
        x.step(0, 1);
        CHECK.due("wind 100", x.night(), 2);
        CHECK.due("prints()", x.prints(), 0);
    }

    /** Every wind that is told, over a whole beach, night by night. */
    private static void winds() {
        CHECK.by("Terms", "A NIGHT: CELL by CELL");
        for (int wind = 0; wind <= 100; wind++) {
            int seed = wind * 37 % 1000;
            SandNights x = Check.told("beach 2 by 3;walker a at 0 0 stride 10;draw " + seed + ";wind " + wind + ";");
            boolean[] top = new boolean[6];
            for (int day = 0; day < 3; day++) {
                for (int cell : new int[] {0, 1, 3, 5, 4}) {
                    x.step(0, cell);
                    top[cell] = true;
                }
                int taken = 0;
                for (int cell = 0; cell < 6; cell++) {
                    if (top[cell]) {
                        seed = (seed * 137 + 71) % 1000;
                        top[cell] = seed % 100 >= wind;
                        taken += top[cell] ? 0 : 1;
                    }
                }
                CHECK.due("wind " + wind + ", night()", x.night(), taken);
                CHECK.due("about(6)", x.about(6), seed);
                for (int cell = 0; cell < 6; cell++) {
                    CHECK.due("sand(" + cell + ", 0)", x.sand(cell, 0), top[cell] ? 0 : -1);
                }
            }
        }
    }

    private static void afterNight() {
        SandNights x = Check.told("beach 3 by 3;walker a at 0 0 stride 10;walker b at 0 0 stride 10;");
        x.step(0, 1);
        x.step(1, 1);
        x.minute();
        x.step(0, 2);
        x.minute();
        x.night();
        CHECK.by("Terms", "WALKERS are where they were told");
        CHECK.due("walker(0, 0)", x.walker(0, 0), 0);
        CHECK.due("walker(1, 0)", x.walker(1, 0), 0);
        CHECK.due("sand(0, 3)", x.sand(0, 3), 3);
        CHECK.by("Terms", "nothing is TROD, nobody OVER, ROUTES are empty");
        CHECK.due("sand(1, 2)", x.sand(1, 2), 0);
        CHECK.due("walker(0, 4)", x.walker(0, 4), 0);
        CHECK.due("walker(1, 4)", x.walker(1, 4), 0);
        CHECK.due("over(1, 0)", x.over(1, 0), 0);
        CHECK.due("orders()", x.orders(), 2);
        CHECK.due("ghost(0, 0)", x.ghost(0, 0), -1);
        CHECK.due("first(0, 1)", x.first(0, 1), -1);
        CHECK.due("alone(0)", x.alone(0), 0);
        CHECK.due("crowd(0)", x.crowd(0), -1);
        CHECK.by("Terms", "(prints that are left, who MET stay)");
        CHECK.due("prints()", x.prints(), 2);
        CHECK.due("sand(1, 0)", x.sand(1, 0), 1);
        CHECK.due("sand(1, 1)", x.sand(1, 1), 0);
        CHECK.due("sand(2, 0)", x.sand(2, 0), 0);
        CHECK.due("sand(2, 1) of another day", x.sand(2, 1), 1);
        CHECK.due("walker(0, 5)", x.walker(0, 5), 4);
        CHECK.due("walker(1, 5)", x.walker(1, 5), 2);
        CHECK.due("met(0, 1)", x.met(0, 1), 1);
        x.minute();
        CHECK.due("met(0, 1) once more", x.met(0, 1), 2);
        CHECK.by("Terms", "the minute is 0, the night one more");
        CHECK.due("about(5)", x.about(5), 1);
        x.night();
        CHECK.due("about(4)", x.about(4), 0);
        CHECK.due("about(5)", x.about(5), 2);
    }

    private static String wholeWithoutRedo(SandNights x) {
        return Check.whole(x).replaceAll("about [78]: [0-9]+\n", "");
    }

    private static void act(SandNights x, int kind) {
        if (kind == 0) {
            x.step(0, x.walker(0, 0));
        } else if (kind == 1) {
            x.minute();
        } else {
            x.night();
        }
    }

    private static void undone() {
        CHECK.by("Terms",
            "UNDO takes back the latest ACT that was not, REDO does that again which was taken back last");
        for (int first = 0; first < 3; first++) {
            for (int second = 0; second < 3; second++) {
                SandNights x = Check.told(THREE + "wind 40;draw 7;tide minute = 2 and column = 1;");
                x.step(2, 1);
                x.step(0, 1);
                x.minute();
                x.seen(1, 1, true);
                x.way(1, 8);
                String before = wholeWithoutRedo(x);
                act(x, first);
                String between = wholeWithoutRedo(x);
                act(x, second);
                String behind = wholeWithoutRedo(x);
                String name = "acts " + first + " and " + second;
                CHECK.due(name + ", undo()", x.undo(), true);
                CHECK.due(name + ", between", wholeWithoutRedo(x).equals(between), true);
                CHECK.due(name + ", undo()", x.undo(), true);
                CHECK.due(name + ", before", wholeWithoutRedo(x).equals(before), true);
                CHECK.due(name + ", about(8)", x.about(8), 2);
                CHECK.due(name + ", redo()", x.redo(), true);
                CHECK.due(name + ", between", wholeWithoutRedo(x).equals(between), true);
                CHECK.due(name + ", redo()", x.redo(), true);
                CHECK.due(name + ", behind", wholeWithoutRedo(x).equals(behind), true);
                CHECK.due(name + ", redo()", x.redo(), false);
                CHECK.due(name + ", about(7)", x.about(7), 5);
            }
        }
        CHECK.by("Terms", "(till another ACT)");
        for (int kind = 0; kind < 3; kind++) {
            SandNights x = Check.told(THREE);
            x.step(0, 1);
            x.step(0, 2);
            x.minute();
            x.undo();
            x.undo();
            CHECK.due("about(8)", x.about(8), 2);
            act(x, kind);
            CHECK.due("act " + kind + ", about(8)", x.about(8), 0);
            CHECK.due("redo()", x.redo(), false);
            CHECK.due("undo()", x.undo(), true);
            CHECK.due("walker(0, 0)", x.walker(0, 0), 1);
            CHECK.due("about(7)", x.about(7), 1);
        }
    }

    private static void kept() {
        CHECK.by("Terms", "40 at most are kept, the oldest go");
        SandNights x = Check.told(THREE);
        for (int i = 0; i < 95; i++) {
            CHECK.due("step", x.step(0, 0), i + 1);
            CHECK.due("about(7)", x.about(7), Math.min(40, i + 1));
        }
        for (int i = 0; i < 40; i++) {
            CHECK.due("undo()", x.undo(), true);
            CHECK.due("sand(0, 2)", x.sand(0, 2), 94 - i);
            CHECK.due("about(7)", x.about(7), 39 - i);
            CHECK.due("about(8)", x.about(8), i + 1);
        }
        CHECK.due("the oldest are gone", x.undo(), false);
        CHECK.due("sand(0, 2)", x.sand(0, 2), 55);
        for (int i = 0; i < 40; i++) {
            CHECK.due("redo()", x.redo(), true);
            CHECK.due("sand(0, 2)", x.sand(0, 2), 56 + i);
        }
        CHECK.due("redo()", x.redo(), false);
        CHECK.due("about(7)", x.about(7), 40);
        for (int i = 0; i < 15; i++) {
            x.undo();
        }
        x.step(0, 3);
        CHECK.due("26 are left", x.about(7), 26);
        for (int i = 0; i < 26; i++) {
            CHECK.due("undo()", x.undo(), true);
        }
        CHECK.due("undo()", x.undo(), false);
        CHECK.due("sand(0, 2)", x.sand(0, 2), 55);
    }

    private static void walker() {
        CHECK.by("6", "what 0: his CELL, 1: where he was told, 2: stride, 3: slip, 4: CELLS that he TROD today, as"
            + " bits, 5: FRESH, as bits");
        SandNights x = Check.told(THREE);
        int[][] due = {{0, 0, 30, 2, 0, 0}, {2, 2, 33, 0, 0, 0}, {0, 0, 40, 0, 0, 0}};
        for (int walker = 0; walker < 3; walker++) {
            for (int what = 0; what < 6; what++) {
                CHECK.due("walker(" + walker + ", " + what + ")", x.walker(walker, what), due[walker][what]);
            }
        }
        x.step(0, 0);
        x.step(0, 3);
        x.step(2, 0);
        int[] behind = {3, 0, 30, 2, 9, 8};
        for (int what = 0; what < 6; what++) {
            CHECK.due("walker(0, " + what + ")", x.walker(0, what), behind[what]);
        }
        CHECK.due("walker(2, 5)", x.walker(2, 5), 1);
        SandNights wide = Check.told("beach 5 by 5;walker a at 4 4 stride 10;");
        wide.step(0, 24);
        CHECK.due("the highest bit", wide.walker(0, 4), 1 << 24);
        CHECK.due("the highest bit", wide.walker(0, 5), 1 << 24);
        CHECK.by("6", "NONE if there is none such, or for another what");
        for (int walker : NO_WALKERS) {
            for (int what = 0; what < 6; what++) {
                CHECK.due("walker(" + walker + ", " + what + ")", x.walker(walker, what), -1);
            }
        }
        for (int what : new int[] {-1, 6, Integer.MAX_VALUE, Integer.MIN_VALUE}) {
            CHECK.due("walker(0, " + what + ")", x.walker(0, what), -1);
        }
    }

    private static void sand() {
        CHECK.by("7", "what 0: the TOP (NONE), 1: the minute when he trod it (NONE without a TOP)");
        SandNights x = Check.told(THREE + "tide minute = 2 and row = 0;");
        CHECK.due("sand(0, 0)", x.sand(0, 0), -1);
        CHECK.due("sand(0, 1)", x.sand(0, 1), -1);
        x.minute();
        x.step(2, 0);
        CHECK.due("sand(0, 0)", x.sand(0, 0), 2);
        CHECK.due("sand(0, 1)", x.sand(0, 1), 1);
        x.minute();
        CHECK.due("taken by the tide", x.sand(0, 0), -1);
        CHECK.due("taken by the tide", x.sand(0, 1), -1);
        CHECK.due("a hut", x.sand(4, 0), -1);
        CHECK.due("a hut", x.sand(4, 1), -1);
        CHECK.by("7", "2: how often it was TROD today, 3: WALKERS there, as bits, 4: 1 with a hut, else 0");
        CHECK.due("sand(0, 2)", x.sand(0, 2), 1);
        CHECK.due("sand(1, 2)", x.sand(1, 2), 0);
        CHECK.due("sand(0, 3)", x.sand(0, 3), 5);
        CHECK.due("sand(2, 3)", x.sand(2, 3), 2);
        CHECK.due("sand(1, 3)", x.sand(1, 3), 0);
        for (int cell = 0; cell < 9; cell++) {
            CHECK.due("sand(" + cell + ", 4)", x.sand(cell, 4), cell == 4 ? 1 : 0);
        }
        SandNights five = Check.told("walker a at 3 3 stride 10;walker b at 3 3 stride 10;walker c at 3 3 stride 10;"
            + "walker d at 3 3 stride 10;walker f at 3 3 stride 10;");
        CHECK.due("all five", five.sand(15, 3), 31);
        five.step(2, 14);
        CHECK.due("without the third", five.sand(15, 3), 27);
        CHECK.by("7", "5: 1 if what comes of tide now is not 0, else 0");
        CHECK.due("sand(0, 5)", x.sand(0, 5), 1);
        CHECK.due("sand(3, 5)", x.sand(3, 5), 0);
        x.minute();
        CHECK.due("sand(0, 5) at minute 3", x.sand(0, 5), 0);
        CHECK.due("what comes of it is 1 at most", Check.told("tide 7;").sand(0, 5), 1);
        CHECK.due("below 0", Check.told("tide 0 - 7;").sand(15, 5), 1);
        CHECK.due("in a hut, too", Check.told("hut 0 0;tide 1;").sand(0, 5), 1);
        SandNights trod = Check.told("walker a at 0 0 stride 10;tide trod = 1;");
        trod.step(0, 0);
        CHECK.due("as TROD now", trod.sand(0, 5), 1);
        CHECK.due("another CELL", trod.sand(1, 5), 0);
        CHECK.by("7", "-2 if there is none such, or for another what");
        for (int cell : NO_CELLS) {
            for (int what = -1; what < 7; what++) {
                CHECK.due("sand(" + cell + ", " + what + ")", x.sand(cell, what), -2);
            }
        }
        for (int what : new int[] {-1, 6, Integer.MAX_VALUE, Integer.MIN_VALUE}) {
            CHECK.due("sand(0, " + what + ")", x.sand(0, what), -2);
            CHECK.due("sand(8, " + what + ")", x.sand(8, what), -2);
        }
    }

    private static void overAndMet() {
        CHECK.by("8", "How often a WALKER lies OVER another one today");
        SandNights x = Check.told(THREE);
        x.minute();
        CHECK.due("over(2, 0)", x.over(2, 0), 0);
        x.step(0, 0);
        x.step(2, 0);
        CHECK.due("over(2, 0)", x.over(2, 0), 1);
        CHECK.due("over(0, 2)", x.over(0, 2), 0);
        x.step(0, 1);
        x.step(2, 1);
        CHECK.due("over(2, 0) twice", x.over(2, 0), 2);
        CHECK.by("8", "NONE if one can't be (himself, too)");
        for (int walker = 0; walker < 3; walker++) {
            CHECK.due("over himself", x.over(walker, walker), -1);
            for (int other : NO_WALKERS) {
                CHECK.due("over(" + walker + ", " + other + ")", x.over(walker, other), -1);
                CHECK.due("over(" + other + ", " + walker + ")", x.over(other, walker), -1);
            }
        }
        CHECK.by("9", "How often two MET");
        CHECK.due("met(2, 0)", x.met(2, 0), 1);
        CHECK.due("met(0, 2)", x.met(0, 2), 1);
        CHECK.due("met(0, 1)", x.met(0, 1), 0);
        x.minute();
        CHECK.due("met(2, 0) twice", x.met(2, 0), 2);
        CHECK.by("9", "NONE if one can't be (one twice, too)");
        for (int walker = 0; walker < 3; walker++) {
            CHECK.due("met himself", x.met(walker, walker), -1);
            for (int other : NO_WALKERS) {
                CHECK.due("met(" + walker + ", " + other + ")", x.met(walker, other), -1);
                CHECK.due("met(" + other + ", " + walker + ")", x.met(other, walker), -1);
            }
        }
        CHECK.due("nobody", new SandNights().over(0, 1), -1);
        CHECK.due("nobody", new SandNights().met(0, 1), -1);
    }

    private static void prints() {
        CHECK.by("10", "How many CELLS have a TOP.");
        SandNights x = Check.told("beach 5 by 5;walker a at 0 0 stride 10;");
        int due = 0;
        for (int row = 0; row < 5; row++) {
            for (int i = 0; i < 5; i++) {
                x.step(0, row * 5 + (row % 2 == 0 ? i : 4 - i));
                due++;
                CHECK.due("prints()", x.prints(), due);
                x.step(0, x.walker(0, 0));
                CHECK.due("prints() trod twice", x.prints(), due);
            }
        }
    }

    private static void step() {
        CHECK.by("11", "how often the CELL is TROD then");
        SandNights x = Check.told(THREE);
        CHECK.due("step(0, 0)", x.step(0, 0), 1);
        CHECK.due("step(2, 0)", x.step(2, 0), 2);
        CHECK.due("step(0, 3)", x.step(0, 3), 1);
        CHECK.due("step(0, 0)", x.step(0, 0), 3);
        x.night();
        CHECK.due("another day", x.step(0, 0), 1);
        CHECK.by("11", "NONE, doing nothing, if it is not BESIDE his or his own, has a hut, or one can't be");
        x.minute();
        x.step(0, 1);
        x.undo();
        String before = Check.whole(x);
        for (int cell : new int[] {2, 4, 5, 6, 7, 8}) {
            CHECK.due("step(0, " + cell + ")", x.step(0, cell), -1);
            CHECK.same("step(0, " + cell + ")", x, before);
        }
        CHECK.due("the hut beside", x.step(1, 4), -1);
        for (int cell : NO_CELLS) {
            CHECK.due("step(0, " + cell + ")", x.step(0, cell), -1);
        }
        for (int walker : NO_WALKERS) {
            CHECK.due("step(" + walker + ", 0)", x.step(walker, 0), -1);
        }
        CHECK.due("another row's end", x.step(1, 3), -1);
        CHECK.same("steps that can't be", x, before);
        CHECK.due("redo()", x.redo(), true);
        CHECK.due("nobody", new SandNights().step(0, 0), -1);
        SandNights hut = Check.told("beach 2 by 2;hut 1 0;walker a at 0 0 stride 10;");
        CHECK.due("a hut beside", hut.step(0, 1), -1);
        CHECK.due("about(7)", hut.about(7), 0);
        CHECK.by("11", "(An ACT.)");
        CHECK.due("step", hut.step(0, 2), 1);
        CHECK.due("about(7)", hut.about(7), 1);
    }

    private static void minute() {
        CHECK.by("12", "how many prints the tide takes");
        SandNights x = Check.told(THREE + "tide row = 0;");
        CHECK.due("no prints", x.minute(), 0);
        x.step(0, 0);
        x.step(1, 2);
        x.step(1, 5);
        x.step(2, 3);
        CHECK.due("two of four", x.minute(), 2);
        CHECK.due("prints()", x.prints(), 2);
        CHECK.due("none is left in its rows", x.minute(), 0);
        CHECK.by("12", "NONE, doing nothing, at minute 999");
        for (int i = 3; i < 998; i++) {
            x.minute();
        }
        x.step(0, 0);
        CHECK.due("minute() at 998", x.minute(), 1);
        CHECK.due("about(4)", x.about(4), 999);
        x.step(0, 0);
        x.step(0, 1);
        x.undo();
        String before = Check.whole(x);
        CHECK.due("minute() at 999", x.minute(), -1);
        CHECK.same("minute() at 999", x, before);
        CHECK.due("redo()", x.redo(), true);
        CHECK.due("night()", x.night(), 0);
        CHECK.due("about(4)", x.about(4), 0);
        CHECK.due("minute() of another day", x.minute() >= 0, true);
        CHECK.by("12", "(An ACT.)");
        SandNights y = new SandNights();
        y.minute();
        CHECK.due("about(7)", y.about(7), 1);
    }

    private static void night() {
        CHECK.by("13", "how many prints the wind takes");
        SandNights x = Check.told(THREE + "wind 100;");
        CHECK.due("no prints", x.night(), 0);
        x.step(0, 0);
        x.step(0, 1);
        x.step(0, 2);
        CHECK.due("three", x.night(), 3);
        CHECK.by("13", "NONE, doing nothing, behind 999 nights");
        for (int i = 2; i < 998; i++) {
            x.night();
        }
        CHECK.due("about(5)", x.about(5), 998);
        x.step(0, 0);
        CHECK.due("the last night", x.night(), 1);
        CHECK.due("about(5)", x.about(5), 999);
        x.step(0, 0);
        x.minute();
        x.step(0, 1);
        x.undo();
        String before = Check.whole(x);
        CHECK.due("behind 999 nights", x.night(), -1);
        CHECK.same("night() behind 999", x, before);
        CHECK.due("redo()", x.redo(), true);
        CHECK.due("minute()", x.minute(), 0);
        CHECK.by("13", "(An ACT.)");
        SandNights y = new SandNights();
        y.night();
        CHECK.due("about(7)", y.about(7), 1);
    }

    private static void undoAndRedo() {
        CHECK.by("14", "UNDO: true; false if there is none");
        SandNights x = Check.told(THREE);
        String before = Check.whole(x);
        CHECK.due("undo()", x.undo(), false);
        CHECK.same("undo() of none", x, before);
        x.step(0, 1);
        CHECK.due("undo()", x.undo(), true);
        CHECK.due("undo()", x.undo(), false);
        CHECK.due("walker(0, 0)", x.walker(0, 0), 0);
        CHECK.due("prints()", x.prints(), 0);
        CHECK.by("15", "REDO: true; false if there is none");
        CHECK.due("redo()", x.redo(), true);
        before = Check.whole(x);
        CHECK.due("redo()", x.redo(), false);
        CHECK.same("redo() of none", x, before);
        CHECK.due("walker(0, 0)", x.walker(0, 0), 1);
        CHECK.due("redo() of a new object", new SandNights().redo(), false);
        CHECK.by("15", "REDO");
        x.undo();
        x.seen(0, 0, true);
        x.later(3);
        x.image(0);
        x.way(0, 8);
        x.untell(0);
        Check.tell(x, "#");
        CHECK.due("what is no ACT leaves it", x.about(8), 1);
        CHECK.due("redo()", x.redo(), true);
        CHECK.due("walker(0, 0)", x.walker(0, 0), 1);
    }

    private static void image() {
        CHECK.by("46", "the minute; NONE if there is none such");
        SandNights x = Check.told(THREE);
        for (int box : new int[] {-1, 3, 31, 32, Integer.MAX_VALUE, Integer.MIN_VALUE}) {
            CHECK.due("image(" + box + ")", x.image(box), -1);
        }
        for (int box = 0; box < 3; box++) {
            CHECK.due("back(" + box + ")", x.back(box), -1);
            CHECK.due("image(" + box + ")", x.image(box), box);
            x.minute();
        }
        for (int box = 2; box >= 0; box--) {
            CHECK.due("back(" + box + ")", x.back(box), box);
        }
        CHECK.by("46", "Where WALKERS are, prints, what was TROD, OVER, ROUTES, who MET, minute, night, SEED are kept"
            + " in a BOX 0 .. 2");
        x = Check.told(THREE + "draw 3;wind 30;tide minute = 9;");
        x.step(1, 1);
        x.night();
        x.step(0, 1);
        x.step(2, 1);
        x.minute();
        x.minute();
        String before = wholeWithoutRedo(x);
        int acts = x.about(7);
        x.image(1);
        CHECK.due("nothing is changed by it", wholeWithoutRedo(x).equals(before), true);
        CHECK.due("it is no ACT", x.about(7), acts);
        for (int i = 0; i < 12; i++) {
            x.minute();
            x.step(0, x.walker(0, 0));
        }
        x.night();
        x.step(1, 2);
        x.undo();
        CHECK.due("back(1)", x.back(1), 2);
        CHECK.due("all is as it was", wholeWithoutRedo(x).equals(before), true);
        x.step(0, 0);
        x.image(1);
        x.undo();
        CHECK.due("kept anew", x.back(1), 2);
        CHECK.due("walker(0, 0)", x.walker(0, 0), 0);
    }

    private static void back() {
        CHECK.by("47", "All is as it was kept (no ACTS are kept then): the minute");
        SandNights x = Check.told(THREE);
        x.image(2);
        x.step(0, 1);
        x.minute();
        x.seen(1, 1, true);
        x.later(4);
        x.way(0, 2);
        x.step(0, 2);
        x.undo();
        CHECK.due("back(2)", x.back(2), 0);
        CHECK.due("undo()", x.undo(), false);
        CHECK.due("redo()", x.redo(), false);
        int[] due = {3, 3, 3, 1, 0, 0, 0, 0, 0, 1, 4, 0, 0, 2};
        for (int what = 0; what < due.length; what++) {
            CHECK.due("about(" + what + ")", x.about(what), due[what]);
        }
        x.step(0, 1);
        CHECK.due("an image is not gone on", x.back(2), 0);
        CHECK.due("walker(0, 0)", x.walker(0, 0), 0);
        CHECK.due("prints()", x.prints(), 0);
        x.step(0, 3);
        CHECK.due("acts behind it are kept", x.undo(), true);
        CHECK.due("walker(0, 0)", x.walker(0, 0), 0);
        CHECK.by("47", "NONE, doing nothing, if nothing was");
        x.step(0, 1);
        x.step(0, 2);
        x.undo();
        String before = Check.whole(x);
        for (int box : new int[] {0, 1, -1, 3, 32, 34, Integer.MAX_VALUE, Integer.MIN_VALUE}) {
            CHECK.due("back(" + box + ")", x.back(box), -1);
            CHECK.same("back(" + box + ")", x, before);
        }
        CHECK.due("redo()", x.redo(), true);
    }

    private static void about() {
        CHECK.by("48", "What 0: WALKERS, 1: COLUMNS, 2: ROWS, 3: huts, 4: the minute, 5: the night, 6: the SEED,"
            + " 7: ACTS that can be undone, 8: redone, 9: SIGHTS, 10: the TIME, 11: bytes on the TAPE,"
            + " 12: units, 13: numbers that lie there.");
        SandNights x = Check.told("beach 3 by 4;hut 0 0;hut 1 0;walker a at 0 1 stride 10;tide 1 + row;draw 71;");
        x.later(9);
        x.step(0, 4);
        x.night();
        x.night();
        x.step(0, 4);
        x.minute();
        x.minute();
        x.minute();
        x.undo();
        x.undo();
        x.seen(0, 0, false);
        x.inRow(1, 1, true);
        x.untell(0);
        x.way(0, 11);
        Check.feed(x, "wind 1");
        // The seed: 71 -> 798 -> 397.
        int[] due = {1, 3, 4, 2, 1, 2, 397, 5, 2, 2, 9, 6, 2, 4};
        for (int what = 0; what < due.length; what++) {
            CHECK.due("about(" + what + ")", x.about(what), due[what]);
        }
        CHECK.by("48", "NONE for another what");
        for (int what : new int[] {-1, 14, Integer.MAX_VALUE, Integer.MIN_VALUE}) {
            CHECK.due("about(" + what + ")", x.about(what), -1);
        }
    }
}
