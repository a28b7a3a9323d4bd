/** Promises 6 to 15, 46 and 47: what is on the sand, acts, undone and redone, images. */
public final class ActsTest {
    private static final Check CHECK = new Check("ActsTest");
    private static final String THREE =
        "beach 3 by 3;hut 1 1;walker a at 0 0 stride 30 slip 2;walker b at 2 0 stride 33;walker c at 0 0 stride 40;";

    public static void main(String[] args) {
        told();
        steps();
        minutes();
        nights();
        formulas();
        undone();
        undoneMinute();
        windEdge();
        kept();
        images();
        CHECK.finish();
    }

    private static void told() {
        SandNights x = Check.told(THREE);
        int[][] due = {{0, 0, 30, 2, 0, 0}, {2, 2, 33, 0, 0, 0}, {0, 0, 40, 0, 0, 0}};
        for (int walker = 0; walker < 3; walker++) {
            for (int what = 0; what < 6; what++) {
                CHECK.due("walker(" + walker + ", " + what + ")", x.walker(walker, what), due[walker][what]);
            }
        }
        CHECK.due("walker(0, 6)", x.walker(0, 6), -1);
        CHECK.due("walker(0, -1)", x.walker(0, -1), -1);
        CHECK.due("walker(3, 0)", x.walker(3, 0), -1);
        CHECK.due("walker(-1, 0)", x.walker(-1, 0), -1);
        CHECK.due("sand(0, 3)", x.sand(0, 3), 5);
        CHECK.due("sand(4, 4)", x.sand(4, 4), 1);
        CHECK.due("sand(3, 4)", x.sand(3, 4), 0);
        CHECK.due("sand(4, 0)", x.sand(4, 0), -1);
        CHECK.due("sand(9, 0)", x.sand(9, 0), -2);
        CHECK.due("sand(-1, 0)", x.sand(-1, 0), -2);
        CHECK.due("sand(0, 6)", x.sand(0, 6), -2);
        CHECK.due("sand(0, -1)", x.sand(0, -1), -2);
    }

    private static void steps() {
        SandNights x = Check.told(THREE);
        CHECK.due("a hut", x.step(0, 4), -1);
        CHECK.due("not beside", x.step(0, 2), -1);
        CHECK.due("no cell", x.step(0, 9), -1);
        CHECK.due("no cell", x.step(0, -1), -1);
        CHECK.due("no walker", x.step(3, 0), -1);
        CHECK.due("no walker", x.step(-1, 0), -1);
        CHECK.due("another row's end", x.step(1, 3), -1);
        CHECK.due("nothing done", x.about(7), 0);
        CHECK.due("staying", x.step(0, 0), 1);
        CHECK.due("staying", x.step(0, 0), 2);
        CHECK.due("nobody under himself", x.orders(), 6);
        CHECK.due("another on it", x.step(2, 0), 3);
        CHECK.due("over(2, 0)", x.over(2, 0), 1);
        CHECK.due("over(0, 2)", x.over(0, 2), 0);
        CHECK.due("over(0, 0)", x.over(0, 0), -1);
        CHECK.due("over(0, 3)", x.over(0, 3), -1);
        CHECK.due("over(-1, 0)", x.over(-1, 0), -1);
        CHECK.due("back on it", x.step(0, 0), 4);
        CHECK.due("over(0, 2)", x.over(0, 2), 1);
        x.step(2, 0);
        CHECK.due("over(2, 0)", x.over(2, 0), 2);
        CHECK.due("down", x.step(0, 3), 1);
        CHECK.due("walker(0, 0)", x.walker(0, 0), 3);
        CHECK.due("walker(0, 4)", x.walker(0, 4), 9);
        CHECK.due("walker(0, 5)", x.walker(0, 5), 8);
        CHECK.due("walker(2, 5)", x.walker(2, 5), 1);
        CHECK.due("sand(0, 0)", x.sand(0, 0), 2);
        CHECK.due("sand(0, 1)", x.sand(0, 1), 0);
        CHECK.due("sand(0, 2)", x.sand(0, 2), 5);
        CHECK.due("sand(0, 3)", x.sand(0, 3), 4);
        CHECK.due("prints()", x.prints(), 2);
        CHECK.due("about(7)", x.about(7), 6);
    }

    private static void minutes() {
        SandNights x = Check.told(THREE + "tide minute = 2 and row = 0;");
        x.step(0, 0);
        x.step(1, 5);
        CHECK.due("minute()", x.minute(), 0);
        CHECK.due("met(0, 2)", x.met(0, 2), 1);
        CHECK.due("met(2, 0)", x.met(2, 0), 1);
        CHECK.due("met(0, 1)", x.met(0, 1), 0);
        CHECK.due("met(0, 0)", x.met(0, 0), -1);
        CHECK.due("met(0, 3)", x.met(0, 3), -1);
        CHECK.due("met(-1, 0)", x.met(-1, 0), -1);
        x.step(2, 1);
        CHECK.due("the minute when he trod it", x.sand(1, 1), 1);
        CHECK.due("by the new minute", x.minute(), 2);
        CHECK.due("sand(0, 5)", x.sand(0, 5), 1);
        CHECK.due("sand(3, 5)", x.sand(3, 5), 0);
        CHECK.due("sand(1, 0)", x.sand(1, 0), -1);
        CHECK.due("no minute without a top", x.sand(1, 1), -1);
        CHECK.due("trod stays", x.sand(1, 2), 1);
        CHECK.due("trod by him stays", x.walker(2, 4), 2);
        CHECK.due("sand(5, 0)", x.sand(5, 0), 1);
        CHECK.due("prints()", x.prints(), 1);
        SandNights y = new SandNights();
        for (int i = 0; i < 999; i++) {
            y.minute();
        }
        CHECK.due("about(4)", y.about(4), 999);
        CHECK.due("minute() at 999", y.minute(), -1);
        CHECK.due("about(7)", y.about(7), 40);
        CHECK.due("about(4)", y.about(4), 999);
        CHECK.due("night()", y.night(), 0);
        CHECK.due("about(4)", y.about(4), 0);
    }

    private static void nights() {
        SandNights x = Check.told("beach 2 by 2;walker a at 0 0 stride 10;walker b at 0 0 stride 10;wind 40;draw 7;");
        x.step(0, 0);
        x.step(1, 0);
        x.step(0, 1);
        x.step(0, 3);
        x.minute();
        x.minute();
        // The seed: 7 -> 30 (taken) -> 181 -> 868.
        CHECK.due("night()", x.night(), 1);
        CHECK.due("the seed", x.about(6), 868);
        CHECK.due("about(5)", x.about(5), 1);
        CHECK.due("about(4)", x.about(4), 0);
        CHECK.due("sand(0, 0)", x.sand(0, 0), -1);
        CHECK.due("sand(1, 0)", x.sand(1, 0), 0);
        CHECK.due("sand(3, 0)", x.sand(3, 0), 0);
        CHECK.due("walker(0, 0)", x.walker(0, 0), 0);
        CHECK.due("walker(0, 4)", x.walker(0, 4), 0);
        CHECK.due("walker(0, 5)", x.walker(0, 5), 10);
        CHECK.due("sand(1, 2)", x.sand(1, 2), 0);
        CHECK.due("over(1, 0)", x.over(1, 0), 0);
        CHECK.due("ghost(0, 0)", x.ghost(0, 0), -1);
        x.minute();
        CHECK.due("who met stays", x.met(0, 1), 1);
        x.night();
        CHECK.due("who met stays", x.met(0, 1), 1);
        SandNights still = Check.told("walker a at 0 0 stride 10;wind 0;draw 9;");
        still.step(0, 0);
        CHECK.due("without wind", still.night(), 0);
        CHECK.due("the seed goes on", still.about(6), (9 * 137 + 71) % 1000);
        CHECK.due("the print stays", still.sand(0, 0), 0);
        SandNights storm = Check.told("walker a at 0 0 stride 10;wind 100;");
        storm.step(0, 0);
        storm.step(0, 1);
        CHECK.due("a storm", storm.night(), 2);
        SandNights y = new SandNights();
        for (int i = 0; i < 999; i++) {
            y.night();
        }
        CHECK.due("about(5)", y.about(5), 999);
        CHECK.due("behind 999 nights", y.night(), -1);
        CHECK.due("about(5)", y.about(5), 999);
        CHECK.due("the seed without tops", y.about(6), 0);
    }

    /** What comes of a formula, by the cell at column 1, row 2, trod three times, at minute 1 of night 1. */
    private static int wet(String formula) {
        SandNights x = Check.told("beach 3 by 4;walker a at 1 2 stride 10;tide " + formula + ";");
        x.night();
        x.step(0, 7);
        x.step(0, 7);
        x.step(0, 7);
        x.minute();
        return x.sand(7, 5);
    }

    private static void formulas() {
        String[] wet = {"1", "row = 2", "column = 1", "minute = 1", "night = 1", "trod = 3", "2 - 3", "7 / 2 = 3",
            "(0 - 7) / 2 = 0 - 3", "(0 - 7) % 2 = 0 - 1", "7 % 4 = 3", "not 0", "not 1 = 2", "not (1 / 0)",
            "(5 % 0) = 0", "(7 and 9) = 1", "(7 or 0) = 1", "(not 9) = 0", "(3 > 2) = 1", "2 + 3 * 4 = 14",
            "10 - 3 - 2 = 5", "100 / 10 / 5 = 2", "1 or 0 and 0", "not 0 or 1 / 0", "(2 + 3) * 4 = 20",
            "9999 * 9999 * 9999 * 9999 = 9999 * 9999 * 9999 * 9999", "9999 * 9999 * 30 < 0", "7 % 3 * 2 = 2",
            "not not 5", "not 1 < 0"};
        String[] dry = {"0", "row = 1", "column = 2", "minute = 0", "trod = 2", "1 / 0", "5 % 0", "not 7", "3 < 3",
            "3 > 3", "0 or 0", "1 and 0", "not (1 or 0)", "not 1 and 0", "0 and 1 or 0", "1 - 1"};
        for (String formula : wet) {
            CHECK.due(formula, wet(formula), 1);
        }
        for (String formula : dry) {
            CHECK.due(formula, wet(formula), 0);
        }
    }

    private static void undone() {
        SandNights x = Check.told(THREE + "wind 100;");
        CHECK.due("undo()", x.undo(), false);
        CHECK.due("redo()", x.redo(), false);
        x.step(0, 1);
        x.step(1, 1);
        x.minute();
        x.night();
        CHECK.due("prints()", x.prints(), 0);
        CHECK.due("undo()", x.undo(), true);
        CHECK.due("prints()", x.prints(), 1);
        CHECK.due("about(6)", x.about(6), 0);
        CHECK.due("ghost(0, 0)", x.ghost(0, 0), 1);
        CHECK.due("met(0, 1)", x.met(0, 1), 1);
        CHECK.due("undo()", x.undo(), true);
        CHECK.due("ghost(0, 0)", x.ghost(0, 0), -1);
        CHECK.due("met(0, 1)", x.met(0, 1), 0);
        CHECK.due("undo()", x.undo(), true);
        CHECK.due("sand(1, 0)", x.sand(1, 0), 0);
        CHECK.due("over(1, 0)", x.over(1, 0), 0);
        CHECK.due("about(7)", x.about(7), 1);
        CHECK.due("about(8)", x.about(8), 3);
        CHECK.due("redo()", x.redo(), true);
        CHECK.due("over(1, 0)", x.over(1, 0), 1);
        CHECK.due("what is refused is no act", x.step(1, 8), -1);
        CHECK.due("about(8)", x.about(8), 2);
        CHECK.due("redo()", x.redo(), true);
        CHECK.due("redo()", x.redo(), true);
        CHECK.due("redo()", x.redo(), false);
        CHECK.due("about(5)", x.about(5), 1);
        CHECK.due("about(6)", x.about(6), 71);
        CHECK.due("undo()", x.undo(), true);
        CHECK.due("undo()", x.undo(), true);
        x.step(0, 0);
        CHECK.due("another act", x.about(8), 0);
        CHECK.due("redo()", x.redo(), false);
        CHECK.due("undo()", x.undo(), true);
        CHECK.due("walker(0, 0)", x.walker(0, 0), 1);
    }

    private static void undoneMinute() {
        SandNights x = Check.told(THREE);
        x.step(0, 0);
        x.minute();
        x.step(0, 0);
        CHECK.due("sand(0, 1)", x.sand(0, 1), 1);
        x.undo();
        CHECK.due("the minute of the print below", x.sand(0, 1), 0);
        x.redo();
        CHECK.due("sand(0, 1)", x.sand(0, 1), 1);
        x.night();
        CHECK.due("a print that is left keeps its minute", x.sand(0, 1), 1);
    }

    /** Draw 7 makes the seed 30: wind takes what is less than it tells. */
    private static void windEdge() {
        for (int wind = 29; wind < 33; wind++) {
            SandNights x = Check.told("walker a at 0 0 stride 10;draw 7;wind " + wind + ";");
            x.step(0, 0);
            CHECK.due("wind " + wind, x.night(), wind > 30 ? 1 : 0);
        }
    }

    private static void kept() {
        SandNights x = Check.told(THREE);
        for (int i = 0; i < 55; i++) {
            CHECK.due("step", x.step(0, 0), i + 1);
        }
        CHECK.due("about(7)", x.about(7), 40);
        for (int i = 0; i < 40; i++) {
            CHECK.due("undo()", x.undo(), true);
            CHECK.due("sand(0, 2)", x.sand(0, 2), 54 - i);
        }
        CHECK.due("the oldest are gone", x.undo(), false);
        CHECK.due("about(8)", x.about(8), 40);
        for (int i = 0; i < 40; i++) {
            CHECK.due("redo()", x.redo(), true);
            CHECK.due("sand(0, 2)", x.sand(0, 2), 16 + i);
        }
        CHECK.due("redo()", x.redo(), false);
        CHECK.due("about(7)", x.about(7), 40);
    }

    private static void images() {
        SandNights x = Check.told(THREE + "draw 3;");
        CHECK.due("back(0)", x.back(0), -1);
        CHECK.due("image(3)", x.image(3), -1);
        CHECK.due("image(-1)", x.image(-1), -1);
        x.step(0, 1);
        x.step(1, 1);
        x.minute();
        x.minute();
        CHECK.due("image(2)", x.image(2), 2);
        x.night();
        x.step(0, 0);
        x.seen(1, 1, true);
        x.later(4);
        x.way(0, 2);
        CHECK.due("image(0)", x.image(0), 0);
        CHECK.due("back(1)", x.back(1), -1);
        CHECK.due("about(7)", x.about(7), 6);
        CHECK.due("back(3)", x.back(3), -1);
        CHECK.due("back(-1)", x.back(-1), -1);
        CHECK.due("back(2)", x.back(2), 2);
        int[] due = {3, 3, 3, 1, 2, 0, 3, 0, 0, 1, 4, 0, 0, 3};
        for (int what = 0; what < due.length; what++) {
            CHECK.due("about(" + what + ")", x.about(what), due[what]);
        }
        CHECK.due("walker(0, 0)", x.walker(0, 0), 1);
        CHECK.due("walker(0, 4)", x.walker(0, 4), 2);
        CHECK.due("over(1, 0)", x.over(1, 0), 1);
        CHECK.due("met(0, 1)", x.met(0, 1), 2);
        CHECK.due("ghost(1, 1)", x.ghost(1, 1), 1);
        CHECK.due("sand(1, 1)", x.sand(1, 1), 0);
        CHECK.due("undo()", x.undo(), false);
        x.step(0, 2);
        CHECK.due("an image is not gone on", x.back(2), 2);
        CHECK.due("walker(0, 0)", x.walker(0, 0), 1);
        CHECK.due("back(0)", x.back(0), 0);
        CHECK.due("about(5)", x.about(5), 1);
        CHECK.due("walker(0, 4)", x.walker(0, 4), 1);
        x.image(2);
        CHECK.due("kept anew", x.back(2), 0);
    }
}
