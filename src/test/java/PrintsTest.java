/** Part 3 of the terms, promises 25 to 33 and 35 to 37: routes, what is left, who trod, orders, lengths, odds. */
public final class PrintsTest {
    private static final Check CHECK = new Check("PrintsTest");
    private static final String THREE =
        "beach 3 by 3;walker a at 0 0 stride 30 slip 2;walker b at 2 0 stride 33 slip 1;walker c at 0 0 stride 34;";
    private static final int[] NO_WALKERS = {-1, 3, 5, Integer.MAX_VALUE, Integer.MIN_VALUE};
    private static final int[] NO_PARTS = {-1, 2, Integer.MAX_VALUE, Integer.MIN_VALUE};

    public static void main(String[] args) {
        ghost();
        first();
        alone();
        crowd();
        fullRoutes();
        remains();
        cover();
        orders();
        may();
        matched();
        matchedNone();
        lasts();
        beyondTheLastNight();
        tides();
        tidesBeyond();
        boldest();
        CHECK.finish();
    }

    /** Three minutes: a and c are in CELL 0, then a goes to 1, then b comes there. */
    private static SandNights threeMinutes() {
        SandNights x = Check.told(THREE);
        x.minute();
        x.step(0, 1);
        x.minute();
        x.step(1, 1);
        x.minute();
        return x;
    }

    private static void ghost() {
        CHECK.by("25", "Where a WALKER was at a minute of today, by his ROUTE");
        SandNights x = threeMinutes();
        int[][] due = {{0, 1, 1}, {2, 2, 1}, {0, 0, 0}};
        for (int walker = 0; walker < 3; walker++) {
            for (int minute = 0; minute < 3; minute++) {
                CHECK.due("ghost(" + walker + ", " + minute + ")", x.ghost(walker, minute), due[walker][minute]);
            }
        }
        CHECK.by("25", "NONE if it has none, or there is none such");
        for (int minute : new int[] {-1, 3, 59, 60, 61, 999, Integer.MAX_VALUE, Integer.MIN_VALUE}) {
            CHECK.due("ghost(0, " + minute + ")", x.ghost(0, minute), -1);
        }
        for (int walker : NO_WALKERS) {
            CHECK.due("ghost(" + walker + ", 0)", x.ghost(walker, 0), -1);
        }
        x.undo();
        CHECK.due("a minute taken back", x.ghost(0, 2), -1);
        CHECK.due("the one ahead of it", x.ghost(0, 1), 1);
        x.night();
        CHECK.due("another day", x.ghost(0, 0), -1);
        for (int i = 0; i < 61; i++) {
            x.minute();
        }
        CHECK.due("minute 59", x.ghost(0, 59), 0);
        CHECK.due("minute 60", x.ghost(0, 60), -1);
    }

    private static void first() {
        CHECK.by("26", "The first minute of today at which both were in one CELL, by their ROUTES");
        SandNights x = threeMinutes();
        x.minute();
        CHECK.due("first(0, 2)", x.first(0, 2), 0);
        CHECK.due("first(2, 0)", x.first(2, 0), 0);
        CHECK.due("first(0, 1)", x.first(0, 1), 2);
        CHECK.due("first(1, 0)", x.first(1, 0), 2);
        CHECK.by("26", "NONE if there is none, or one can't be (one twice, too)");
        CHECK.due("first(1, 2)", x.first(1, 2), -1);
        CHECK.due("not for now", Check.told(THREE).first(0, 2), -1);
        for (int walker = 0; walker < 3; walker++) {
            CHECK.due("one twice", x.first(walker, walker), -1);
            for (int other : NO_WALKERS) {
                CHECK.due("first(" + walker + ", " + other + ")", x.first(walker, other), -1);
                CHECK.due("first(" + other + ", " + walker + ")", x.first(other, walker), -1);
            }
        }
        x.step(2, 1);
        CHECK.due("a minute that goes on", x.first(1, 2), -1);
        x.minute();
        CHECK.due("it went by", x.first(1, 2), 4);
        x.night();
        CHECK.due("another day", x.first(0, 2), -1);
        SandNights late = Check.told(THREE);
        for (int i = 0; i < 59; i++) {
            late.minute();
        }
        late.step(1, 1);
        late.image(0);
        late.step(1, 0);
        late.minute();
        CHECK.due("minute 59", late.first(0, 1), 59);
        late.back(0);
        late.minute();
        late.step(1, 0);
        late.minute();
        CHECK.due("minute 60 is in no ROUTE", late.first(0, 1), -1);
        CHECK.due("they MET all the same", late.met(0, 1), 1);
    }

    private static void alone() {
        CHECK.by("27", "At how many minutes of today a WALKER was alone in his CELL, by ROUTES");
        SandNights x = Check.told(THREE);
        CHECK.due("without ROUTES", x.alone(1), 0);
        x = threeMinutes();
        CHECK.due("alone(0)", x.alone(0), 1);
        CHECK.due("alone(1)", x.alone(1), 2);
        CHECK.due("alone(2)", x.alone(2), 2);
        x.night();
        CHECK.due("another day", x.alone(1), 0);
        for (int i = 0; i < 62; i++) {
            x.minute();
        }
        CHECK.due("60 at most", x.alone(1), 60);
        CHECK.due("never", x.alone(0), 0);
        CHECK.by("27", "NONE if there is none such");
        for (int walker : NO_WALKERS) {
            CHECK.due("alone(" + walker + ")", x.alone(walker), -1);
        }
    }

    private static void crowd() {
        CHECK.by("28",
            "The minute of today at which most WALKERS were in one CELL, by ROUTES, what 0: it, 1: how many");
        SandNights x = Check.told("walker a at 0 0 stride 10;walker b at 1 0 stride 10;walker c at 2 0 stride 10;"
            + "walker d at 3 0 stride 10;");
        x.minute();
        CHECK.due("crowd(0)", x.crowd(0), 0);
        CHECK.due("crowd(1)", x.crowd(1), 1);
        SandNights one = Check.told("walker a at 3 3 stride 10;");
        one.minute();
        CHECK.due("one alone", one.crowd(0), 0);
        CHECK.due("one alone", one.crowd(1), 1);
        x.step(2, 3);
        x.minute();
        CHECK.due("crowd(0)", x.crowd(0), 1);
        CHECK.due("crowd(1)", x.crowd(1), 2);
        CHECK.by("28", "of like ones the first");
        x.minute();
        x.step(0, 1);
        x.minute();
        CHECK.due("two by two are no more", x.crowd(0), 1);
        CHECK.due("crowd(1)", x.crowd(1), 2);
        x.step(2, 2);
        x.step(2, 1);
        x.minute();
        CHECK.due("crowd(0)", x.crowd(0), 4);
        CHECK.due("crowd(1)", x.crowd(1), 3);
        CHECK.by("28", "NONE without ROUTES, WALKERS, or for another what");
        for (int what : NO_PARTS) {
            CHECK.due("crowd(" + what + ")", x.crowd(what), -1);
        }
        x.night();
        SandNights nobody = new SandNights();
        nobody.minute();
        for (int what = 0; what < 2; what++) {
            CHECK.due("another day", x.crowd(what), -1);
            CHECK.due("without WALKERS", nobody.crowd(what), -1);
            CHECK.due("without both", new SandNights().crowd(what), -1);
        }
        SandNights late = Check.told(THREE);
        for (int i = 0; i < 60; i++) {
            late.minute();
        }
        late.step(1, 1);
        late.step(1, 0);
        late.minute();
        CHECK.due("minute 60 is in no ROUTE", late.crowd(1), 2);
        CHECK.due("crowd(0)", late.crowd(0), 0);
    }

    /** Five walkers for as many minutes as routes have. */
    private static void fullRoutes() {
        CHECK.by("Terms", "the minutes 0 .. 59 of today");
        SandNights x = Check.told("walker a at 0 0 stride 10;walker b at 0 0 stride 10;walker c at 0 0 stride 10;"
            + "walker d at 0 0 stride 10;walker f at 3 3 stride 10;");
        for (int minute = 0; minute < 59; minute++) {
            x.step(0, minute % 2);
            x.minute();
        }
        x.step(0, 0);
        x.image(1);
        x.minute();
        x.minute();
        x.step(4, 14);
        x.minute();
        x.undo();
        CHECK.due("crowd(0)", x.crowd(0), 0);
        CHECK.due("crowd(1)", x.crowd(1), 4);
        CHECK.due("alone(4)", x.alone(4), 60);
        CHECK.due("alone(0)", x.alone(0), 29);
        CHECK.due("first(3, 4)", x.first(3, 4), -1);
        for (int minute = 0; minute < 60; minute++) {
            CHECK.due("ghost(0, " + minute + ")", x.ghost(0, minute), minute == 59 ? 0 : minute % 2);
            CHECK.due("ghost(4, " + minute + ")", x.ghost(4, minute), 15);
        }
        x.back(1);
        CHECK.due("as it was kept", x.alone(4), 59);
        for (int minute = 0; minute < 60; minute++) {
            CHECK.due("kept: ghost(0, " + minute + ")", x.ghost(0, minute), minute == 59 ? -1 : minute % 2);
        }
    }

    private static void means(SandNights x, int n, int upper, int lower) {
        CHECK.due("remains(" + n + ", 0)", x.remains(n, 0), upper);
        CHECK.due("remains(" + n + ", 1)", x.remains(n, 1), lower);
    }

    private static void remains() {
        CHECK.by("29", "How many prints are there behind n NIGHTS (0 .. 3) on the mean, by wind alone");
        SandNights x = Check.told("walker a at 0 0 stride 10;wind 1;tide 1;draw 999;");
        x.step(0, 0);
        x.step(0, 1);
        x.step(0, 2);
        x.step(0, 2);
        means(x, 0, 3, 1);
        means(x, 1, 297, 100);
        means(x, 2, 29403, 10000);
        means(x, 3, 2910897, 1000000);
        SandNights wide = Check.told("beach 5 by 5;walker a at 0 0 stride 10;wind 1;");
        for (int row = 0; row < 5; row++) {
            for (int i = 0; i < 5; i++) {
                wide.step(0, row * 5 + (row % 2 == 0 ? i : 4 - i));
            }
        }
        means(wide, 3, 970299, 40000);
        CHECK.by("29", "the upper part (0), the lower part (1), in lowest terms (0 of 1)");
        SandNights half = Check.told("walker a at 0 0 stride 10;wind 50;");
        means(half, 0, 0, 1);
        means(half, 3, 0, 1);
        half.step(0, 0);
        half.step(0, 1);
        means(half, 0, 2, 1);
        means(half, 1, 1, 1);
        means(half, 2, 1, 2);
        SandNights storm = Check.told("walker a at 0 0 stride 10;wind 100;");
        storm.step(0, 0);
        means(storm, 0, 1, 1);
        means(storm, 1, 0, 1);
        means(storm, 3, 0, 1);
        CHECK.by("29", "NONE if one can't be");
        for (int n : new int[] {-1, 4, Integer.MAX_VALUE, Integer.MIN_VALUE}) {
            CHECK.due("remains(" + n + ", 0)", x.remains(n, 0), -1);
            CHECK.due("remains(" + n + ", 1)", x.remains(n, 1), -1);
        }
        for (int part : NO_PARTS) {
            CHECK.due("remains(0, " + part + ")", x.remains(0, part), -1);
        }
    }

    private static void coverIs(SandNights x, int set, int... walkers) {
        int bits = 0;
        for (int walker : walkers) {
            bits |= 1 << walker;
        }
        CHECK.due("cover(" + set + ", 0)", x.cover(set, 0), walkers.length);
        CHECK.due("cover(" + set + ", 1)", x.cover(set, 1), bits);
    }

    private static void cover() {
        CHECK.by("Terms",
            "the fewest WALKERS who TROD all of these today together; of like ones the least set as bits");
        SandNights x = Check.told("beach 5 by 5;walker a at 0 0 stride 10;walker b at 0 0 stride 10;"
            + "walker c at 0 0 stride 10;walker d at 0 0 stride 10;walker f at 4 4 stride 10;");
        coverIs(x, 0);
        x.step(0, 0);
        x.step(1, 1);
        x.step(2, 0);
        x.step(2, 1);
        x.step(3, 5);
        x.step(3, 6);
        x.step(4, 24);
        coverIs(x, 0);
        coverIs(x, 1, 0);
        coverIs(x, 2, 1);
        coverIs(x, 3, 2);
        coverIs(x, 32, 3);
        coverIs(x, 33, 0, 3);
        coverIs(x, 35, 2, 3);
        coverIs(x, 1 << 24 | 35, 2, 3, 4);
        coverIs(x, 1 << 24 | 64, 3, 4);
        CHECK.by("30", "COVER (CELLS as bits) what 0: how many, 1: which, as bits");
        CHECK.due("cover(35, 0)", x.cover(35, 0), 2);
        CHECK.due("cover(35, 1)", x.cover(35, 1), 12);
        CHECK.by("30", "NONE if all together did not, or one can't be");
        for (int what = 0; what < 2; what++) {
            CHECK.due("nobody TROD it", x.cover(5, what), -1);
            CHECK.due("no CELL", x.cover(1 << 25, what), -1);
            CHECK.due("no CELLS", x.cover(-1, what), -1);
            CHECK.due("no CELL", x.cover(Integer.MIN_VALUE | 1, what), -1);
            CHECK.due("no CELL of these", Check.told("beach 2 by 2;").cover(16, what), -1);
            CHECK.due("nobody", new SandNights().cover(1, what), -1);
            CHECK.due("none by nobody", new SandNights().cover(0, what), 0);
        }
        for (int what : NO_PARTS) {
            CHECK.due("cover(1, " + what + ")", x.cover(1, what), -1);
            CHECK.due("cover(0, " + what + ")", x.cover(0, what), -1);
        }
        x.night();
        CHECK.due("today alone", x.cover(1, 0), -1);
        SandNights five = Check.told("beach 5 by 5;walker a at 0 0 stride 10;walker b at 1 0 stride 10;"
            + "walker c at 2 0 stride 10;walker d at 3 0 stride 10;walker f at 4 0 stride 10;tide 1;");
        for (int walker = 0; walker < 5; walker++) {
            five.step(walker, walker);
        }
        five.minute();
        coverIs(five, 31, 0, 1, 2, 3, 4);
        coverIs(five, 26, 1, 3, 4);
    }

    private static void orders() {
        CHECK.by("Terms", "in how many orders all WALKERS can have walked one behind the other, if each lies behind"
            + " all OVER whom he lies today");
        SandNights x = Check.told("walker a at 0 0 stride 10;walker b at 0 0 stride 10;walker c at 0 0 stride 10;"
            + "walker d at 0 0 stride 10;walker f at 0 0 stride 10;");
        CHECK.due("orders()", x.orders(), 120);
        x.step(0, 0);
        x.step(1, 0);
        CHECK.due("orders()", x.orders(), 60);
        x.step(2, 0);
        CHECK.due("orders()", x.orders(), 20);
        x.step(3, 1);
        x.step(4, 1);
        CHECK.due("orders()", x.orders(), 10);
        x.step(3, 0);
        CHECK.due("orders()", x.orders(), 1);
        CHECK.by("31", "(1 without WALKERS; 0 if some lie round)");
        x.step(0, 0);
        CHECK.due("three lie round", x.orders(), 0);
        x.night();
        CHECK.due("another day", x.orders(), 60 * 2);
        CHECK.due("without WALKERS", new SandNights().orders(), 1);
        CHECK.due("one", Check.told("walker a at 0 0 stride 10;").orders(), 1);
        SandNights two = Check.told("walker a at 0 0 stride 10;walker b at 0 0 stride 10;");
        CHECK.due("two", two.orders(), 2);
        two.step(0, 0);
        two.step(1, 0);
        CHECK.due("one over the other", two.orders(), 1);
        two.step(0, 0);
        CHECK.due("two lie round", two.orders(), 0);
    }

    private static void may() {
        CHECK.by("Terms", "whose stride is no more than his slip from it");
        SandNights x = Check.told(THREE);
        int[][] due = {{27, 0}, {28, 1}, {30, 1}, {31, 1}, {32, 3}, {33, 2}, {34, 6}, {35, 0}};
        for (int[] pair : due) {
            CHECK.due("may(" + pair[0] + ")", x.may(pair[0]), pair[1]);
        }
        CHECK.by("32", "WALKERS of whom a print of a length (1 .. 999) MAY be, as bits; NONE for another one.");
        SandNights edges = Check.told("walker a at 0 0 stride 10 slip 9;walker b at 0 0 stride 99 slip 9;"
            + "walker c at 0 0 stride 10;walker d at 0 0 stride 99;walker f at 0 0 stride 99 slip 8;");
        int[][] far = {{1, 1}, {10, 5}, {19, 1}, {20, 0}, {89, 0}, {90, 2}, {91, 18}, {99, 26}, {107, 18}, {108, 2},
            {109, 0}, {999, 0}};
        for (int[] pair : far) {
            CHECK.due("may(" + pair[0] + ")", edges.may(pair[0]), pair[1]);
        }
        for (int length : new int[] {0, -1, -10, 1000, Integer.MAX_VALUE, Integer.MIN_VALUE}) {
            CHECK.due("may(" + length + ")", edges.may(length), -1);
        }
        CHECK.due("nobody", new SandNights().may(10), 0);
    }

    private static void matched() {
        CHECK.by("Terms",
            "(up to four, in a row): ways in which they are of unlike WALKERS, of each of whom it MAY be");
        SandNights x = Check.told(THREE);
        CHECK.due("matched(32, 0, 0, 0)", x.matched(32, 0, 0, 0), 2);
        CHECK.due("matched(32, 34, 0, 0)", x.matched(32, 34, 0, 0), 3);
        CHECK.due("matched(34, 34, 0, 0)", x.matched(34, 34, 0, 0), 2);
        CHECK.due("matched(32, 34, 34, 0)", x.matched(32, 34, 34, 0), 2);
        CHECK.due("one of whom nobody", x.matched(32, 999, 0, 0), 0);
        CHECK.due("one twice", x.matched(30, 30, 0, 0), 0);
        CHECK.due("more than WALKERS", x.matched(32, 34, 34, 32), 0);
        SandNights five = Check.told("walker a at 0 0 stride 50;walker b at 0 0 stride 50;walker c at 0 0 stride 50;"
            + "walker d at 0 0 stride 50;walker f at 0 0 stride 50;");
        int[] due = {5, 20, 60, 120};
        CHECK.due("one of five", five.matched(50, 0, 0, 0), due[0]);
        CHECK.due("two of five", five.matched(50, 50, 0, 0), due[1]);
        CHECK.due("three of five", five.matched(50, 50, 50, 0), due[2]);
        CHECK.due("four of five", five.matched(50, 50, 50, 50), due[3]);
        CHECK.due("nobody", new SandNights().matched(50, 0, 0, 0), 0);
        SandNights small = Check.told("walker a at 0 0 stride 10 slip 9;walker b at 0 0 stride 10 slip 9;"
            + "walker c at 0 0 stride 10 slip 9;walker d at 0 0 stride 10 slip 9;walker f at 0 0 stride 10 slip 8;");
        CHECK.due("the least length", small.matched(1, 0, 0, 0), 4);
        CHECK.due("the least length", small.matched(1, 1, 0, 0), 12);
        CHECK.due("the least length", small.matched(1, 1, 1, 0), 24);
        CHECK.due("the least length", small.matched(1, 1, 1, 1), 24);
        CHECK.due("beside another one", small.matched(2, 1, 1, 1), 48);
    }

    private static void matchedNone() {
        CHECK.by("33", "MATCHED (0: no length, behind which all are 0)");
        SandNights x = Check.told(THREE);
        CHECK.due("matched(1, 0, 1, 0)", x.matched(1, 0, 1, 0), -1);
        CHECK.due("matched(1, 0, 0, 1)", x.matched(1, 0, 0, 1), -1);
        CHECK.due("matched(1, 0, 1, 1)", x.matched(1, 0, 1, 1), -1);
        CHECK.due("matched(1, 1, 0, 1)", x.matched(1, 1, 0, 1), -1);
        CHECK.due("matched(1, 1, 0, 0)", x.matched(1, 1, 0, 0), 0);
        CHECK.by("33", "NONE if one can't be (the first one 0, too)");
        CHECK.due("matched(0, 0, 0, 0)", x.matched(0, 0, 0, 0), -1);
        CHECK.due("matched(0, 32, 0, 0)", x.matched(0, 32, 0, 0), -1);
        CHECK.due("matched(0, 32, 32, 32)", x.matched(0, 32, 32, 32), -1);
        for (int length : new int[] {-1, 1000, Integer.MAX_VALUE, Integer.MIN_VALUE}) {
            CHECK.due("the first " + length, x.matched(length, 0, 0, 0), -1);
            CHECK.due("the second " + length, x.matched(32, length, 0, 0), -1);
            CHECK.due("the third " + length, x.matched(32, 32, length, 0), -1);
            CHECK.due("the fourth " + length, x.matched(32, 32, 32, length), -1);
        }
        CHECK.due("999 can be", x.matched(999, 999, 999, 999), 0);
        CHECK.due("1 can be", x.matched(1, 1, 1, 1), 0);
    }

    private static void odds(SandNights x, int n, int upper, int lower) {
        CHECK.due("lasts(" + n + ", 0)", x.lasts(n, 0), upper);
        CHECK.due("lasts(" + n + ", 1)", x.lasts(n, 1), lower);
    }

    private static void lasts() {
        CHECK.by("Terms", "odds that a print is there behind n NIGHTS, by wind alone, whatever the SEED is");
        SandNights x = Check.told("walker a at 0 0 stride 10;wind 1;draw 7;tide 1;");
        odds(x, 0, 1, 1);
        odds(x, 1, 99, 100);
        odds(x, 2, 9801, 10000);
        odds(x, 3, 970299, 1000000);
        odds(x, 4, 96059601, 100000000);
        CHECK.by("35", "the upper part (0), the lower part (1), in lowest terms (0 of 1)");
        odds(Check.told("wind 50;"), 2, 1, 4);
        odds(Check.told("wind 50;"), 4, 1, 16);
        odds(Check.told("wind 40;"), 1, 3, 5);
        odds(Check.told("wind 99;"), 4, 1, 100000000);
        odds(Check.told("wind 100;"), 0, 1, 1);
        odds(Check.told("wind 100;"), 1, 0, 1);
        odds(Check.told("wind 100;"), 4, 0, 1);
        odds(new SandNights(), 4, 1, 1);
        CHECK.by("35", "LASTS (n 0 .. 4)");
        for (int n : new int[] {-1, 5, Integer.MAX_VALUE, Integer.MIN_VALUE}) {
            CHECK.due("lasts(" + n + ", 0)", x.lasts(n, 0), -1);
            CHECK.due("lasts(" + n + ", 1)", x.lasts(n, 1), -1);
        }
        CHECK.by("35", "NONE if one can't be");
        for (int part : NO_PARTS) {
            CHECK.due("lasts(1, " + part + ")", x.lasts(1, part), -1);
        }
    }

    private static void beyondTheLastNight() {
        CHECK.by("Terms", "What lies ahead goes on as told beyond the last one that can be done, too.)");
        SandNights x = Check.told("walker a at 0 0 stride 10;wind 50;");
        for (int i = 0; i < 999; i++) {
            x.night();
        }
        x.step(0, 0);
        CHECK.due("night()", x.night(), -1);
        odds(x, 4, 1, 16);
        means(x, 3, 1, 8);
        SandNights late = Check.told("walker a at 0 0 stride 10;tide minute > 1000;");
        for (int i = 0; i < 999; i++) {
            late.minute();
        }
        late.step(0, 0);
        CHECK.due("minute()", late.minute(), -1);
        CHECK.due("minute 1,000", late.tides(1), 1);
        CHECK.due("minute 1,001", late.tides(2), 0);
        CHECK.due("minute 1,059", late.tides(60), 0);
    }

    private static void tides() {
        CHECK.by("Terms", "how many CELLS with a TOP the next n MINUTES leave, if nobody steps");
        SandNights x = Check.told("beach 3 by 3;walker a at 0 0 stride 10;"
            + "tide minute = 3 and row = 0 or minute = 60 and row = 1;");
        CHECK.due("no prints", x.tides(0), 0);
        CHECK.due("no prints", x.tides(60), 0);
        x.step(0, 1);
        x.step(0, 4);
        x.step(0, 7);
        int[][] due = {{0, 3}, {1, 3}, {2, 3}, {3, 2}, {4, 2}, {59, 2}, {60, 1}};
        for (int[] pair : due) {
            CHECK.due("tides(" + pair[0] + ")", x.tides(pair[0]), pair[1]);
        }
        CHECK.due("nothing is done", x.prints(), 3);
        x.minute();
        x.minute();
        CHECK.due("from now on", x.tides(1), 2);
        CHECK.due("from now on", x.tides(57), 2);
        CHECK.due("from now on", x.tides(58), 1);
        x.minute();
        CHECK.due("this minute's tide is over", x.tides(0), 2);
        SandNights now = Check.told("walker a at 0 0 stride 10;tide minute = 0;");
        now.step(0, 0);
        CHECK.due("this minute's tide is over", now.tides(60), 1);
        SandNights wide = Check.told("beach 5 by 5;walker a at 4 4 stride 10;"
            + "tide minute = 2 and row = 4 and column = 3;");
        wide.step(0, 24);
        wide.step(0, 23);
        CHECK.due("the last CELLS", wide.tides(1), 2);
        CHECK.due("the last CELLS", wide.tides(2), 1);
        SandNights trod = Check.told("walker a at 0 0 stride 10;tide trod = 2 and night = 1;");
        trod.step(0, 0);
        trod.step(0, 0);
        CHECK.due("by this night", trod.tides(60), 1);
        trod.night();
        CHECK.due("by what was TROD today", trod.tides(60), 1);
        trod.step(0, 0);
        trod.step(0, 0);
        CHECK.due("TROD twice in night 1", trod.tides(1), 0);
    }

    private static void tidesBeyond() {
        CHECK.by("36", "TIDES (n 0 .. 60); NONE for another n.");
        SandNights x = Check.told("walker a at 0 0 stride 10;");
        x.step(0, 0);
        CHECK.due("tides(0)", x.tides(0), 1);
        CHECK.due("tides(60)", x.tides(60), 1);
        for (int n : new int[] {-1, 61, Integer.MAX_VALUE, Integer.MIN_VALUE}) {
            CHECK.due("tides(" + n + ")", x.tides(n), -1);
        }
    }

    private static void boldest() {
        CHECK.by("37", "The WALKER of most FRESH prints; of like ones the first");
        SandNights x = Check.told(THREE);
        CHECK.due("without prints", x.boldest(), 0);
        x.step(1, 1);
        CHECK.due("the only one", x.boldest(), 1);
        x.step(2, 0);
        CHECK.due("one each", x.boldest(), 1);
        x.step(2, 3);
        CHECK.due("two", x.boldest(), 2);
        x.step(0, 1);
        x.step(0, 2);
        CHECK.due("two each", x.boldest(), 0);
        x.step(0, 2);
        x.step(2, 6);
        CHECK.due("FRESH ones alone", x.boldest(), 2);
        CHECK.by("37", "NONE without WALKERS");
        CHECK.due("nobody", new SandNights().boldest(), -1);
    }
}
