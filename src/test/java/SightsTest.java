/** Promises 39 to 45: sights told and untold, the time, paths, what is sure, what to ask. */
public final class SightsTest {
    private static final Check CHECK = new Check("SightsTest");

    public static void main(String[] args) {
        limits();
        times();
        paths();
        sure();
        asks();
        CHECK.finish();
    }

    private static void limits() {
        SandNights x = Check.told("beach 3 by 2;hut 1 0;");
        CHECK.due("no minute", x.seen(8, 0, true), -1);
        CHECK.due("no minute", x.seen(-1, 0, true), -1);
        CHECK.due("no cell", x.seen(0, 6, true), -1);
        CHECK.due("no cell", x.seen(0, -1, false), -1);
        CHECK.due("no minute", x.inRow(8, 0, true), -1);
        CHECK.due("no minute", x.inRow(-1, 0, true), -1);
        CHECK.due("no row", x.inRow(0, 2, true), -1);
        CHECK.due("no row", x.inRow(0, -1, true), -1);
        CHECK.due("about(9)", x.about(9), 0);
        for (int i = 0; i < 30; i++) {
            int number = i % 2 == 0 ? x.seen(i % 8, 5, false) : x.inRow(i % 8, 1, true);
            CHECK.due("its number", number, i);
        }
        CHECK.due("one too many", x.seen(0, 0, true), -1);
        CHECK.due("one too many", x.inRow(0, 0, true), -1);
        CHECK.due("untell(29)", x.untell(29), true);
        CHECK.due("untold ones are kept", x.seen(0, 0, true), -1);
        CHECK.due("about(9)", x.about(9), 30);
        CHECK.due("untell(29)", x.untell(29), false);
        CHECK.due("untell(30)", x.untell(30), false);
        CHECK.due("untell(-1)", x.untell(-1), false);
    }

    private static void times() {
        SandNights x = Check.told("beach 2 by 2;");
        CHECK.due("later(0)", x.later(0), 0);
        CHECK.due("later(1000)", x.later(1000), 1000);
        CHECK.due("later(1001)", x.later(1001), -1);
        CHECK.due("later(-1)", x.later(-1), -1);
        for (int i = 2; i <= 100; i++) {
            CHECK.due("later(1000)", x.later(1000), 1000 * i);
        }
        CHECK.due("later(1)", x.later(1), -1);
        CHECK.due("later(0)", x.later(0), 100000);
        CHECK.due("about(10)", x.about(10), 100000);
        x.beach();
        CHECK.due("the time stays", x.about(10), 100000);
    }

    private static void paths() {
        SandNights x = Check.told("beach 2 by 2;");
        int all = 4 * 2187;
        CHECK.due("paths(0)", x.paths(0), all);
        x.later(5);
        x.seen(0, 0, true);
        CHECK.due("not known yet", x.paths(4), all);
        CHECK.due("known", x.paths(5), all / 4);
        x.later(5);
        x.untell(0);
        CHECK.due("known till then", x.paths(9), all / 4);
        CHECK.due("untold", x.paths(10), all);
        CHECK.due("untold for ever", x.paths(Integer.MAX_VALUE), all);
        CHECK.due("ahead of all", x.paths(Integer.MIN_VALUE), all);
        x.seen(7, 3, false);
        x.inRow(3, 1, true);
        CHECK.due("paths(9)", x.paths(9), all / 4);
        x.untell(2);
        CHECK.due("told and untold at one time", x.paths(10), all * 3 / 4);
        x.inRow(3, 0, false);
        x.inRow(3, 0, true);
        CHECK.due("both can't be", x.paths(10), 0);
        CHECK.due("known for ever", x.paths(Integer.MAX_VALUE), 0);
        SandNights hut = Check.told("beach 2 by 2;hut 0 0;");
        CHECK.due("a sight of a hut", hut.seen(2, 0, false), 0);
        CHECK.due("never in a hut", hut.paths(0), 1393);
        hut.seen(2, 0, true);
        CHECK.due("never in a hut", hut.paths(0), 0);
        SandNights huts = Check.told("beach 2 by 2;hut 0 0;hut 0 1;hut 1 0;hut 1 1;");
        CHECK.due("nowhere to go", huts.paths(0), 0);
        CHECK.due("nowhere to go", huts.sure(0, 0), -1);
        CHECK.due("nowhere to go", huts.ask(0, 0), -1);
    }

    private static void sure() {
        SandNights x = Check.told("beach 5 by 5;");
        CHECK.due("sure(0, 0)", x.sure(0, 0), -2);
        CHECK.due("sure(8, 0)", x.sure(8, 0), -1);
        CHECK.due("sure(-1, 0)", x.sure(-1, 0), -1);
        x.seen(0, 0, true);
        x.later(1);
        x.seen(4, 4, true);
        CHECK.due("by one sight", x.sure(2, 0), -2);
        CHECK.due("by two", x.sure(2, 1), 2);
        CHECK.due("sure(0, 1)", x.sure(0, 1), 0);
        CHECK.due("sure(4, 1)", x.sure(4, 1), 4);
        CHECK.due("sure(5, 1)", x.sure(5, 1), -2);
        x.later(1);
        x.seen(3, 3, false);
        CHECK.due("no paths", x.sure(2, 2), -1);
        CHECK.due("no paths", x.sure(0, 2), -1);
        CHECK.due("known earlier", x.sure(3, 1), 3);
    }

    private static void asks() {
        SandNights x = Check.told("beach 2 by 2;");
        CHECK.due("all alike: the first", x.ask(0, 0), 0);
        CHECK.due("a fourth", x.ask(1, 0), 2187);
        CHECK.due("ask(2, 0)", x.ask(2, 0), -1);
        CHECK.due("ask(-1, 0)", x.ask(-1, 0), -1);
        x.seen(0, 0, true);
        x.seen(1, 0, true);
        x.seen(2, 0, true);
        x.seen(4, 0, true);
        x.seen(5, 0, true);
        x.seen(6, 0, true);
        CHECK.due("minute 3 or 7, of like ones the first", x.ask(0, 0), 3);
        CHECK.due("ask(1, 0)", x.ask(1, 0), 3);
        x.seen(3, 0, true);
        CHECK.due("minute 7", x.ask(0, 0), 7);
        CHECK.due("ask(1, 0)", x.ask(1, 0), 1);
        x.seen(7, 3, true);
        CHECK.due("no paths", x.ask(0, 0), -1);
        CHECK.due("no paths", x.ask(1, 0), -1);
        SandNights row = Check.told("beach 5 by 2;");
        row.inRow(7, 0, true);
        row.inRow(7, 1, true);
        CHECK.due("no paths", row.ask(0, 0), -1);
    }
}
