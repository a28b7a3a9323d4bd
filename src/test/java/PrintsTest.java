/** Promises 25 to 33 and 35 to 37: routes, what is left of prints, who trod, orders, whose a print may be, odds. */
public final class PrintsTest {
    private static final Check CHECK = new Check("PrintsTest");
    private static final String THREE =
        "beach 3 by 3;walker a at 0 0 stride 30 slip 2;walker b at 2 0 stride 33 slip 1;walker c at 0 0 stride 34;";

    public static void main(String[] args) {
        routes();
        longRoutes();
        crowds();
        odds();
        covers();
        orders();
        lengths();
        tides();
        boldest();
        CHECK.finish();
    }

    private static void routes() {
        SandNights x = Check.told(THREE);
        CHECK.due("ghost(0, 0)", x.ghost(0, 0), -1);
        CHECK.due("alone(0)", x.alone(0), 0);
        CHECK.due("crowd(0)", x.crowd(0), -1);
        CHECK.due("first(0, 2)", x.first(0, 2), -1);
        x.minute();
        x.step(0, 1);
        x.minute();
        x.step(1, 1);
        x.minute();
        int[][] due = {{0, 1, 1}, {2, 2, 1}, {0, 0, 0}};
        for (int walker = 0; walker < 3; walker++) {
            for (int minute = 0; minute < 3; minute++) {
                CHECK.due("ghost(" + walker + ", " + minute + ")", x.ghost(walker, minute), due[walker][minute]);
            }
        }
        CHECK.due("ghost(0, 3)", x.ghost(0, 3), -1);
        CHECK.due("ghost(0, -1)", x.ghost(0, -1), -1);
        CHECK.due("ghost(3, 0)", x.ghost(3, 0), -1);
        CHECK.due("ghost(-1, 0)", x.ghost(-1, 0), -1);
        CHECK.due("first(0, 2)", x.first(0, 2), 0);
        CHECK.due("first(0, 1)", x.first(0, 1), 2);
        CHECK.due("first(1, 0)", x.first(1, 0), 2);
        CHECK.due("first(1, 2)", x.first(1, 2), -1);
        CHECK.due("first(0, 0)", x.first(0, 0), -1);
        CHECK.due("first(0, 3)", x.first(0, 3), -1);
        CHECK.due("alone(0)", x.alone(0), 1);
        CHECK.due("alone(1)", x.alone(1), 2);
        CHECK.due("alone(2)", x.alone(2), 2);
        CHECK.due("alone(3)", x.alone(3), -1);
        x.night();
        CHECK.due("behind a night", x.ghost(0, 0), -1);
        CHECK.due("behind a night", x.first(0, 2), -1);
        CHECK.due("behind a night", x.alone(1), 0);
    }

    private static void longRoutes() {
        SandNights x = Check.told(THREE);
        for (int i = 0; i < 60; i++) {
            x.minute();
        }
        x.step(1, 1);
        x.step(1, 0);
        x.minute();
        CHECK.due("minute 59", x.ghost(1, 59), 2);
        CHECK.due("minute 60 is in no route", x.ghost(1, 60), -1);
        CHECK.due("first(0, 1)", x.first(0, 1), -1);
        CHECK.due("alone(1)", x.alone(1), 60);
        CHECK.due("crowd(1)", x.crowd(1), 2);
        CHECK.due("met beyond it", x.met(0, 1), 1);
        CHECK.due("met(0, 2)", x.met(0, 2), 61);
    }

    private static void crowds() {
        SandNights x = Check.told("walker a at 0 0 stride 10;walker b at 1 0 stride 10;walker c at 2 0 stride 10;");
        x.minute();
        CHECK.due("crowd(0)", x.crowd(0), 0);
        CHECK.due("crowd(1)", x.crowd(1), 1);
        x.step(0, 1);
        x.minute();
        x.minute();
        CHECK.due("of like ones the first", x.crowd(0), 1);
        CHECK.due("crowd(1)", x.crowd(1), 2);
        x.step(2, 1);
        x.minute();
        CHECK.due("crowd(0)", x.crowd(0), 3);
        CHECK.due("crowd(1)", x.crowd(1), 3);
        CHECK.due("crowd(2)", x.crowd(2), -1);
        CHECK.due("crowd(-1)", x.crowd(-1), -1);
        SandNights one = Check.told("walker a at 0 0 stride 10;");
        one.minute();
        CHECK.due("one alone", one.crowd(1), 1);
        SandNights nobody = new SandNights();
        nobody.minute();
        CHECK.due("without walkers", nobody.crowd(0), -1);
        CHECK.due("without walkers", nobody.crowd(1), -1);
    }

    private static void parts(SandNights x, int n, int upper, int lower) {
        CHECK.due("lasts(" + n + ", 0)", x.lasts(n, 0), upper);
        CHECK.due("lasts(" + n + ", 1)", x.lasts(n, 1), lower);
    }

    private static void means(SandNights x, int n, int upper, int lower) {
        CHECK.due("remains(" + n + ", 0)", x.remains(n, 0), upper);
        CHECK.due("remains(" + n + ", 1)", x.remains(n, 1), lower);
    }

    private static void odds() {
        SandNights x = Check.told("walker a at 0 0 stride 10;wind 1;");
        parts(x, 0, 1, 1);
        parts(x, 1, 99, 100);
        parts(x, 4, 96059601, 100000000);
        CHECK.due("lasts(5, 0)", x.lasts(5, 0), -1);
        CHECK.due("lasts(-1, 0)", x.lasts(-1, 0), -1);
        CHECK.due("lasts(1, 2)", x.lasts(1, 2), -1);
        CHECK.due("lasts(1, -1)", x.lasts(1, -1), -1);
        means(x, 2, 0, 1);
        x.step(0, 0);
        x.step(0, 1);
        x.step(0, 2);
        x.step(0, 2);
        means(x, 0, 3, 1);
        means(x, 1, 297, 100);
        means(x, 3, 2910897, 1000000);
        CHECK.due("remains(4, 0)", x.remains(4, 0), -1);
        CHECK.due("remains(-1, 0)", x.remains(-1, 0), -1);
        CHECK.due("remains(0, 2)", x.remains(0, 2), -1);
        SandNights half = Check.told("walker a at 0 0 stride 10;wind 50;");
        parts(half, 2, 1, 4);
        half.step(0, 0);
        half.step(0, 1);
        means(half, 1, 1, 1);
        means(half, 2, 1, 2);
        SandNights storm = Check.told("walker a at 0 0 stride 10;wind 100;");
        storm.step(0, 0);
        parts(storm, 0, 1, 1);
        parts(storm, 1, 0, 1);
        means(storm, 0, 1, 1);
        means(storm, 3, 0, 1);
        parts(new SandNights(), 4, 1, 1);
    }

    private static void covers() {
        SandNights x = Check.told("beach 5 by 5;walker a at 0 0 stride 10;walker b at 0 0 stride 10;"
            + "walker c at 0 0 stride 10;walker d at 0 0 stride 10;");
        CHECK.due("cover(0, 0)", x.cover(0, 0), 0);
        CHECK.due("cover(0, 1)", x.cover(0, 1), 0);
        x.step(0, 0);
        x.step(1, 1);
        x.step(2, 0);
        x.step(2, 1);
        x.step(3, 5);
        x.step(3, 6);
        CHECK.due("cover(1, 0)", x.cover(1, 0), 1);
        CHECK.due("of like ones the least", x.cover(1, 1), 1);
        CHECK.due("cover(3, 0)", x.cover(3, 0), 1);
        CHECK.due("fewest first", x.cover(3, 1), 4);
        CHECK.due("cover(2, 1)", x.cover(2, 1), 2);
        CHECK.due("cover(35, 0)", x.cover(35, 0), 2);
        CHECK.due("cover(35, 1)", x.cover(35, 1), 12);
        CHECK.due("cover(33, 1)", x.cover(33, 1), 9);
        CHECK.due("nobody trod it", x.cover(5, 0), -1);
        CHECK.due("nobody trod it", x.cover(5, 1), -1);
        CHECK.due("no cell", x.cover(1 << 25, 0), -1);
        CHECK.due("no cells", x.cover(-1, 0), -1);
        CHECK.due("another what", x.cover(1, 2), -1);
        x.night();
        CHECK.due("today alone", x.cover(1, 0), -1);
    }

    private static void orders() {
        CHECK.due("without walkers", new SandNights().orders(), 1);
        SandNights x = Check.told("walker a at 0 0 stride 10;walker b at 0 0 stride 10;walker c at 0 0 stride 10;"
            + "walker d at 0 0 stride 10;walker f at 0 0 stride 10;");
        CHECK.due("orders()", x.orders(), 120);
        x.step(0, 0);
        x.step(1, 0);
        CHECK.due("orders()", x.orders(), 60);
        x.step(2, 0);
        CHECK.due("orders()", x.orders(), 20);
        x.step(3, 1);
        x.step(4, 1);
        CHECK.due("orders()", x.orders(), 10);
        x.step(3, 0);
        CHECK.due("orders()", x.orders(), 1);
        x.step(0, 0);
        CHECK.due("round", x.orders(), 0);
        x.night();
        CHECK.due("another day", x.orders(), 120);
    }

    private static void lengths() {
        SandNights x = Check.told(THREE);
        int[][] due = {{27, 0}, {28, 1}, {31, 1}, {32, 3}, {33, 2}, {34, 6}, {35, 0}, {999, 0}, {1, 0}, {1000, -1},
            {0, -1}, {-5, -1}};
        for (int[] pair : due) {
            CHECK.due("may(" + pair[0] + ")", x.may(pair[0]), pair[1]);
        }
        CHECK.due("matched(32, 0, 0, 0)", x.matched(32, 0, 0, 0), 2);
        CHECK.due("matched(32, 34, 0, 0)", x.matched(32, 34, 0, 0), 3);
        CHECK.due("matched(34, 34, 0, 0)", x.matched(34, 34, 0, 0), 2);
        CHECK.due("matched(32, 34, 34, 0)", x.matched(32, 34, 34, 0), 2);
        CHECK.due("matched(30, 30, 0, 0)", x.matched(30, 30, 0, 0), 0);
        CHECK.due("matched(32, 34, 34, 32)", x.matched(32, 34, 34, 32), 0);
        CHECK.due("matched(0, 0, 0, 0)", x.matched(0, 0, 0, 0), -1);
        CHECK.due("matched(0, 1, 0, 0)", x.matched(0, 1, 0, 0), -1);
        CHECK.due("matched(1, 0, 1, 0)", x.matched(1, 0, 1, 0), -1);
        CHECK.due("matched(1, 1, 0, 1)", x.matched(1, 1, 0, 1), -1);
        CHECK.due("matched(1, 0, 0, 1)", x.matched(1, 0, 0, 1), -1);
        CHECK.due("matched(32, 999, 0, 0)", x.matched(32, 999, 0, 0), 0);
        CHECK.due("matched(1000, 0, 0, 0)", x.matched(1000, 0, 0, 0), -1);
        CHECK.due("matched(32, 32, 32, 1000)", x.matched(32, 32, 32, 1000), -1);
        CHECK.due("matched(32, -1, 0, 0)", x.matched(32, -1, 0, 0), -1);
        SandNights five = Check.told("walker a at 0 0 stride 50;walker b at 0 0 stride 50;walker c at 0 0 stride 50;"
            + "walker d at 0 0 stride 50;walker f at 0 0 stride 50;");
        CHECK.due("matched(50, 50, 50, 50)", five.matched(50, 50, 50, 50), 120);
    }

    private static void tides() {
        SandNights x = Check.told("beach 3 by 3;walker a at 0 0 stride 10;tide minute = 3 and row = 0 or minute > 1000;");
        CHECK.due("tides(0)", x.tides(0), 0);
        x.step(0, 1);
        x.step(0, 4);
        x.step(0, 7);
        CHECK.due("tides(0)", x.tides(0), 3);
        CHECK.due("tides(2)", x.tides(2), 3);
        CHECK.due("tides(3)", x.tides(3), 2);
        CHECK.due("tides(60)", x.tides(60), 2);
        CHECK.due("tides(61)", x.tides(61), -1);
        CHECK.due("tides(-1)", x.tides(-1), -1);
        CHECK.due("nothing is done", x.prints(), 3);
        CHECK.due("nothing is done", x.about(4), 0);
        for (int i = 0; i < 999; i++) {
            x.minute();
        }
        CHECK.due("at minute 999", x.tides(1), 2);
        CHECK.due("beyond the last one", x.tides(2), 0);
        SandNights now = Check.told("walker a at 0 0 stride 10;tide minute = 0;");
        now.step(0, 0);
        CHECK.due("this minute's tide is over", now.tides(60), 1);
    }

    private static void boldest() {
        CHECK.due("nobody", new SandNights().boldest(), -1);
        SandNights x = Check.told(THREE);
        CHECK.due("without prints", x.boldest(), 0);
        x.step(1, 1);
        CHECK.due("boldest()", x.boldest(), 1);
        x.step(2, 0);
        CHECK.due("of like ones the first", x.boldest(), 1);
        x.step(0, 1);
        x.step(0, 2);
        CHECK.due("boldest()", x.boldest(), 0);
    }
}
